theorem zst_nestM : ∀ q ∈ zNestM, Cond.methodLinkNest q.1 q.2.1 q.2.2.1 q.2.2.2 ∈ lw_tbl := by
  intro q hq
  simp only [zNestM, List.mem_cons, List.not_mem_nil, or_false] at hq
  rcases hq with rfl | rfl | rfl | rfl | rfl | rfl | rfl | rfl | rfl | rfl | rfl | rfl | rfl | rfl | rfl
  · exact ztb_in 1 (List.mem_of_getElem? (i := 36) rfl)
  · exact ztb_in 1 (List.mem_of_getElem? (i := 42) rfl)
  · exact ztb_in 1 (List.mem_of_getElem? (i := 119) rfl)
  · exact ztb_in 1 (List.mem_of_getElem? (i := 176) rfl)
  · exact ztb_in 2 (List.mem_of_getElem? (i := 0) rfl)
  · exact ztb_in 2 (List.mem_of_getElem? (i := 42) rfl)
  · exact ztb_in 2 (List.mem_of_getElem? (i := 91) rfl)
  · exact ztb_in 2 (List.mem_of_getElem? (i := 154) rfl)
  · exact ztb_in 2 (List.mem_of_getElem? (i := 189) rfl)
  · exact ztb_in 2 (List.mem_of_getElem? (i := 215) rfl)
  · exact ztb_in 3 (List.mem_of_getElem? (i := 181) rfl)
  · exact ztb_in 4 (List.mem_of_getElem? (i := 31) rfl)
  · exact ztb_in 4 (List.mem_of_getElem? (i := 44) rfl)
  · exact ztb_in 4 (List.mem_of_getElem? (i := 135) rfl)
  · exact ztb_in 5 (List.mem_of_getElem? (i := 28) rfl)
theorem zst_nestF : ∀ q ∈ zNestF, Cond.fieldLinkNest q.1 q.2.1 q.2.2.1 q.2.2.2.1 q.2.2.2.2.1 q.2.2.2.2.2 ∈ lw_tbl := by
  intro q hq
  simp only [zNestF, List.mem_cons, List.not_mem_nil, or_false] at hq
  rcases hq with rfl
  · exact ztb_in 2 (List.mem_of_getElem? (i := 223) rfl)
theorem zst_ao : ∀ C ∈ zAos, Cond.arrayOver (.object C) ∈ lw_tbl := by
  intro C hC
  simp only [zAos, List.mem_cons, List.not_mem_nil, or_false] at hC
  rcases hC with rfl | rfl | rfl
  · exact ztb_in 2 (List.mem_of_getElem? (i := 38) rfl)
  · exact ztb_in 2 (List.mem_of_getElem? (i := 40) rfl)
  · exact ztb_in 2 (List.mem_of_getElem? (i := 187) rfl)
theorem zst_wit {α : Prop} (h : α) : α := h
theorem zst_words {args : Array Value} {s : State} (hs : ∀ w ∈ flatC (Cond.and given_1 narrow_1), w.before args s = true) : ∀ j : Nat, j < 77 → (Cond.eq (.elem (.field (.string "VolcanoWatch$Tape" 54) "java/lang/String" "value" "[B") (.int (Int32.ofNat j))) (.int ((([zWby] : List (List Int32)).getD 0 []).getD j 0))).before args s = true := by
  intro j hj
  match j, hj with
  | 0, _ => exact hs (.eq (.elem (.field (.string "VolcanoWatch$Tape" 54) "java/lang/String" "value" "[B") (.int 0)) (.int 107)) (by decide +kernel)
  | 1, _ => exact hs (.eq (.elem (.field (.string "VolcanoWatch$Tape" 54) "java/lang/String" "value" "[B") (.int 1)) (.int 101)) (by decide +kernel)
  | 2, _ => exact hs (.eq (.elem (.field (.string "VolcanoWatch$Tape" 54) "java/lang/String" "value" "[B") (.int 2)) (.int 101)) (by decide +kernel)
  | 3, _ => exact hs (.eq (.elem (.field (.string "VolcanoWatch$Tape" 54) "java/lang/String" "value" "[B") (.int 3)) (.int 112)) (by decide +kernel)
  | 4, _ => exact hs (.eq (.elem (.field (.string "VolcanoWatch$Tape" 54) "java/lang/String" "value" "[B") (.int 4)) (.int 32)) (by decide +kernel)
  | 5, _ => exact hs (.eq (.elem (.field (.string "VolcanoWatch$Tape" 54) "java/lang/String" "value" "[B") (.int 5)) (.int 108)) (by decide +kernel)
  | 6, _ => exact hs (.eq (.elem (.field (.string "VolcanoWatch$Tape" 54) "java/lang/String" "value" "[B") (.int 6)) (.int 101)) (by decide +kernel)
  | 7, _ => exact hs (.eq (.elem (.field (.string "VolcanoWatch$Tape" 54) "java/lang/String" "value" "[B") (.int 7)) (.int 118)) (by decide +kernel)
  | 8, _ => exact hs (.eq (.elem (.field (.string "VolcanoWatch$Tape" 54) "java/lang/String" "value" "[B") (.int 8)) (.int 101)) (by decide +kernel)
  | 9, _ => exact hs (.eq (.elem (.field (.string "VolcanoWatch$Tape" 54) "java/lang/String" "value" "[B") (.int 9)) (.int 108)) (by decide +kernel)
  | 10, _ => exact hs (.eq (.elem (.field (.string "VolcanoWatch$Tape" 54) "java/lang/String" "value" "[B") (.int 10)) (.int 32)) (by decide +kernel)
  | 11, _ => exact hs (.eq (.elem (.field (.string "VolcanoWatch$Tape" 54) "java/lang/String" "value" "[B") (.int 11)) (.int 111)) (by decide +kernel)
  | 12, _ => exact hs (.eq (.elem (.field (.string "VolcanoWatch$Tape" 54) "java/lang/String" "value" "[B") (.int 12)) (.int 114)) (by decide +kernel)
  | 13, _ => exact hs (.eq (.elem (.field (.string "VolcanoWatch$Tape" 54) "java/lang/String" "value" "[B") (.int 13)) (.int 32)) (by decide +kernel)
  | 14, _ => exact hs (.eq (.elem (.field (.string "VolcanoWatch$Tape" 54) "java/lang/String" "value" "[B") (.int 14)) (.int 97)) (by decide +kernel)
  | 15, _ => exact hs (.eq (.elem (.field (.string "VolcanoWatch$Tape" 54) "java/lang/String" "value" "[B") (.int 15)) (.int 110)) (by decide +kernel)
  | 16, _ => exact hs (.eq (.elem (.field (.string "VolcanoWatch$Tape" 54) "java/lang/String" "value" "[B") (.int 16)) (.int 100)) (by decide +kernel)
  | 17, _ => exact hs (.eq (.elem (.field (.string "VolcanoWatch$Tape" 54) "java/lang/String" "value" "[B") (.int 17)) (.int 32)) (by decide +kernel)
  | 18, _ => exact hs (.eq (.elem (.field (.string "VolcanoWatch$Tape" 54) "java/lang/String" "value" "[B") (.int 18)) (.int 110)) (by decide +kernel)
  | 19, _ => exact hs (.eq (.elem (.field (.string "VolcanoWatch$Tape" 54) "java/lang/String" "value" "[B") (.int 19)) (.int 111)) (by decide +kernel)
  | 20, _ => exact hs (.eq (.elem (.field (.string "VolcanoWatch$Tape" 54) "java/lang/String" "value" "[B") (.int 20)) (.int 116)) (by decide +kernel)
  | 21, _ => exact hs (.eq (.elem (.field (.string "VolcanoWatch$Tape" 54) "java/lang/String" "value" "[B") (.int 21)) (.int 32)) (by decide +kernel)
  | 22, _ => exact hs (.eq (.elem (.field (.string "VolcanoWatch$Tape" 54) "java/lang/String" "value" "[B") (.int 22)) (.int 108)) (by decide +kernel)
  | 23, _ => exact hs (.eq (.elem (.field (.string "VolcanoWatch$Tape" 54) "java/lang/String" "value" "[B") (.int 23)) (.int 97)) (by decide +kernel)
  | 24, _ => exact hs (.eq (.elem (.field (.string "VolcanoWatch$Tape" 54) "java/lang/String" "value" "[B") (.int 24)) (.int 115)) (by decide +kernel)
  | 25, _ => exact hs (.eq (.elem (.field (.string "VolcanoWatch$Tape" 54) "java/lang/String" "value" "[B") (.int 25)) (.int 116)) (by decide +kernel)
  | 26, _ => exact hs (.eq (.elem (.field (.string "VolcanoWatch$Tape" 54) "java/lang/String" "value" "[B") (.int 26)) (.int 32)) (by decide +kernel)
  | 27, _ => exact hs (.eq (.elem (.field (.string "VolcanoWatch$Tape" 54) "java/lang/String" "value" "[B") (.int 27)) (.int 102)) (by decide +kernel)
  | 28, _ => exact hs (.eq (.elem (.field (.string "VolcanoWatch$Tape" 54) "java/lang/String" "value" "[B") (.int 28)) (.int 105)) (by decide +kernel)
  | 29, _ => exact hs (.eq (.elem (.field (.string "VolcanoWatch$Tape" 54) "java/lang/String" "value" "[B") (.int 29)) (.int 114)) (by decide +kernel)
  | 30, _ => exact hs (.eq (.elem (.field (.string "VolcanoWatch$Tape" 54) "java/lang/String" "value" "[B") (.int 30)) (.int 115)) (by decide +kernel)
  | 31, _ => exact hs (.eq (.elem (.field (.string "VolcanoWatch$Tape" 54) "java/lang/String" "value" "[B") (.int 31)) (.int 116)) (by decide +kernel)
  | 32, _ => exact hs (.eq (.elem (.field (.string "VolcanoWatch$Tape" 54) "java/lang/String" "value" "[B") (.int 32)) (.int 32)) (by decide +kernel)
  | 33, _ => exact hs (.eq (.elem (.field (.string "VolcanoWatch$Tape" 54) "java/lang/String" "value" "[B") (.int 33)) (.int 115)) (by decide +kernel)
  | 34, _ => exact hs (.eq (.elem (.field (.string "VolcanoWatch$Tape" 54) "java/lang/String" "value" "[B") (.int 34)) (.int 117)) (by decide +kernel)
  | 35, _ => exact hs (.eq (.elem (.field (.string "VolcanoWatch$Tape" 54) "java/lang/String" "value" "[B") (.int 35)) (.int 109)) (by decide +kernel)
  | 36, _ => exact hs (.eq (.elem (.field (.string "VolcanoWatch$Tape" 54) "java/lang/String" "value" "[B") (.int 36)) (.int 32)) (by decide +kernel)
  | 37, _ => exact hs (.eq (.elem (.field (.string "VolcanoWatch$Tape" 54) "java/lang/String" "value" "[B") (.int 37)) (.int 109)) (by decide +kernel)
  | 38, _ => exact hs (.eq (.elem (.field (.string "VolcanoWatch$Tape" 54) "java/lang/String" "value" "[B") (.int 38)) (.int 97)) (by decide +kernel)
  | 39, _ => exact hs (.eq (.elem (.field (.string "VolcanoWatch$Tape" 54) "java/lang/String" "value" "[B") (.int 39)) (.int 120)) (by decide +kernel)
  | 40, _ => exact hs (.eq (.elem (.field (.string "VolcanoWatch$Tape" 54) "java/lang/String" "value" "[B") (.int 40)) (.int 32)) (by decide +kernel)
  | 41, _ => exact hs (.eq (.elem (.field (.string "VolcanoWatch$Tape" 54) "java/lang/String" "value" "[B") (.int 41)) (.int 109)) (by decide +kernel)
  | 42, _ => exact hs (.eq (.elem (.field (.string "VolcanoWatch$Tape" 54) "java/lang/String" "value" "[B") (.int 42)) (.int 105)) (by decide +kernel)
  | 43, _ => exact hs (.eq (.elem (.field (.string "VolcanoWatch$Tape" 54) "java/lang/String" "value" "[B") (.int 43)) (.int 110)) (by decide +kernel)
  | 44, _ => exact hs (.eq (.elem (.field (.string "VolcanoWatch$Tape" 54) "java/lang/String" "value" "[B") (.int 44)) (.int 32)) (by decide +kernel)
  | 45, _ => exact hs (.eq (.elem (.field (.string "VolcanoWatch$Tape" 54) "java/lang/String" "value" "[B") (.int 45)) (.int 99)) (by decide +kernel)
  | 46, _ => exact hs (.eq (.elem (.field (.string "VolcanoWatch$Tape" 54) "java/lang/String" "value" "[B") (.int 46)) (.int 111)) (by decide +kernel)
  | 47, _ => exact hs (.eq (.elem (.field (.string "VolcanoWatch$Tape" 54) "java/lang/String" "value" "[B") (.int 47)) (.int 117)) (by decide +kernel)
  | 48, _ => exact hs (.eq (.elem (.field (.string "VolcanoWatch$Tape" 54) "java/lang/String" "value" "[B") (.int 48)) (.int 110)) (by decide +kernel)
  | 49, _ => exact hs (.eq (.elem (.field (.string "VolcanoWatch$Tape" 54) "java/lang/String" "value" "[B") (.int 49)) (.int 116)) (by decide +kernel)
  | 50, _ => exact hs (.eq (.elem (.field (.string "VolcanoWatch$Tape" 54) "java/lang/String" "value" "[B") (.int 50)) (.int 32)) (by decide +kernel)
  | 51, _ => exact hs (.eq (.elem (.field (.string "VolcanoWatch$Tape" 54) "java/lang/String" "value" "[B") (.int 51)) (.int 103)) (by decide +kernel)
  | 52, _ => exact hs (.eq (.elem (.field (.string "VolcanoWatch$Tape" 54) "java/lang/String" "value" "[B") (.int 52)) (.int 97)) (by decide +kernel)
  | 53, _ => exact hs (.eq (.elem (.field (.string "VolcanoWatch$Tape" 54) "java/lang/String" "value" "[B") (.int 53)) (.int 112)) (by decide +kernel)
  | 54, _ => exact hs (.eq (.elem (.field (.string "VolcanoWatch$Tape" 54) "java/lang/String" "value" "[B") (.int 54)) (.int 115)) (by decide +kernel)
  | 55, _ => exact hs (.eq (.elem (.field (.string "VolcanoWatch$Tape" 54) "java/lang/String" "value" "[B") (.int 55)) (.int 32)) (by decide +kernel)
  | 56, _ => exact hs (.eq (.elem (.field (.string "VolcanoWatch$Tape" 54) "java/lang/String" "value" "[B") (.int 56)) (.int 116)) (by decide +kernel)
  | 57, _ => exact hs (.eq (.elem (.field (.string "VolcanoWatch$Tape" 54) "java/lang/String" "value" "[B") (.int 57)) (.int 114)) (by decide +kernel)
  | 58, _ => exact hs (.eq (.elem (.field (.string "VolcanoWatch$Tape" 54) "java/lang/String" "value" "[B") (.int 58)) (.int 101)) (by decide +kernel)
  | 59, _ => exact hs (.eq (.elem (.field (.string "VolcanoWatch$Tape" 54) "java/lang/String" "value" "[B") (.int 59)) (.int 109)) (by decide +kernel)
  | 60, _ => exact hs (.eq (.elem (.field (.string "VolcanoWatch$Tape" 54) "java/lang/String" "value" "[B") (.int 60)) (.int 111)) (by decide +kernel)
  | 61, _ => exact hs (.eq (.elem (.field (.string "VolcanoWatch$Tape" 54) "java/lang/String" "value" "[B") (.int 61)) (.int 114)) (by decide +kernel)
  | 62, _ => exact hs (.eq (.elem (.field (.string "VolcanoWatch$Tape" 54) "java/lang/String" "value" "[B") (.int 62)) (.int 32)) (by decide +kernel)
  | 63, _ => exact hs (.eq (.elem (.field (.string "VolcanoWatch$Tape" 54) "java/lang/String" "value" "[B") (.int 63)) (.int 116)) (by decide +kernel)
  | 64, _ => exact hs (.eq (.elem (.field (.string "VolcanoWatch$Tape" 54) "java/lang/String" "value" "[B") (.int 64)) (.int 105)) (by decide +kernel)
  | 65, _ => exact hs (.eq (.elem (.field (.string "VolcanoWatch$Tape" 54) "java/lang/String" "value" "[B") (.int 65)) (.int 108)) (by decide +kernel)
  | 66, _ => exact hs (.eq (.elem (.field (.string "VolcanoWatch$Tape" 54) "java/lang/String" "value" "[B") (.int 66)) (.int 116)) (by decide +kernel)
  | 67, _ => exact hs (.eq (.elem (.field (.string "VolcanoWatch$Tape" 54) "java/lang/String" "value" "[B") (.int 67)) (.int 32)) (by decide +kernel)
  | 68, _ => exact hs (.eq (.elem (.field (.string "VolcanoWatch$Tape" 54) "java/lang/String" "value" "[B") (.int 68)) (.int 103)) (by decide +kernel)
  | 69, _ => exact hs (.eq (.elem (.field (.string "VolcanoWatch$Tape" 54) "java/lang/String" "value" "[B") (.int 69)) (.int 97)) (by decide +kernel)
  | 70, _ => exact hs (.eq (.elem (.field (.string "VolcanoWatch$Tape" 54) "java/lang/String" "value" "[B") (.int 70)) (.int 115)) (by decide +kernel)
  | 71, _ => exact hs (.eq (.elem (.field (.string "VolcanoWatch$Tape" 54) "java/lang/String" "value" "[B") (.int 71)) (.int 32)) (by decide +kernel)
  | 72, _ => exact hs (.eq (.elem (.field (.string "VolcanoWatch$Tape" 54) "java/lang/String" "value" "[B") (.int 72)) (.int 104)) (by decide +kernel)
  | 73, _ => exact hs (.eq (.elem (.field (.string "VolcanoWatch$Tape" 54) "java/lang/String" "value" "[B") (.int 73)) (.int 101)) (by decide +kernel)
  | 74, _ => exact hs (.eq (.elem (.field (.string "VolcanoWatch$Tape" 54) "java/lang/String" "value" "[B") (.int 74)) (.int 97)) (by decide +kernel)
  | 75, _ => exact hs (.eq (.elem (.field (.string "VolcanoWatch$Tape" 54) "java/lang/String" "value" "[B") (.int 75)) (.int 116)) (by decide +kernel)
  | 76, _ => exact hs (.eq (.elem (.field (.string "VolcanoWatch$Tape" 54) "java/lang/String" "value" "[B") (.int 76)) (.int 32)) (by decide +kernel)
  | j + 77, hj => omega
theorem zst_dcs {args : Array Value} {s : State} (hts : ∀ w ∈ lw_tbl, w.before args s = true) : ∀ q ∈ zDcs, va_Nw (.declares q) s := by
  intro q hq
  simp only [zDcs, List.mem_cons, List.not_mem_nil, or_false] at hq
  rcases hq with rfl | rfl | rfl
  · exact va_Nw.of rfl (hts _ (ztb_in 6 (List.mem_of_getElem? (i := 23) rfl)))
  · exact va_Nw.of rfl (hts _ (ztb_in 6 (List.mem_of_getElem? (i := 25) rfl)))
  · exact va_Nw.of rfl (hts _ (ztb_in 6 (List.mem_of_getElem? (i := 27) rfl)))

set_option maxRecDepth 100000 in
theorem zstart {p : Program} {e : Env} {s : State} {m : MethodId} {below : List Frame} {meth : Method} {c : Code} (l : Launch) (hst : l.stackTraces = false) {b L : Nat} {xs : Nat → Int32} (C0 : lw_At p s m meth c b L xs)
    (h : ∀ E : zE, E.2.2.2.2.2.1 = L → E.2.2.2.2.2.2 = xs → zA E ([], fun _ _ => none, true) (0, 0) mL_law 0 [(0, .inr (.inr (-100)))] [] (fun _ _ => 0) (fun r _ _ => r = 1)) :
    W p l e room_1 s m #[Value.ref b] below meth c s.heap [] 0 0 (lw_Z below #[Value.ref b] s) (entryFrame m ([Value.ref b] : List Value).toArray 7) := by
  obtain ⟨hx, hb, hr, hml, hown, hts, hX, hbl, hlocks, hgv⟩ := id C0
  have hs := flat_of_before _ hgv
  obtain ⟨D, hD⟩ := zst_cls hts
  obtain ⟨tA, htA⟩ := zst_arr hts
  obtain ⟨t2, ht2, hT2⟩ := va_Tof (args := #[Value.ref b]) (tm := .static "VolcanoWatch" "STEP_X" "[I") (ty := .int) (N := 8) (f := fun j => .int (Int32.ofInt (([1, 1, 0, -1, -1, -1, 0, 1] : List Int).getD j 0))) (A := fun q => s.heap.size ≤ q) (by decide) (hs (.arrayOf (.static "VolcanoWatch" "STEP_X" "[I") .int) (by decide +kernel)) (va_eqt (hs (.eq (.length (.static "VolcanoWatch" "STEP_X" "[I")) (.int 8)) (by decide +kernel))) (fun j hj => by
    have hj2 : j = 0 ∨ j = 1 ∨ j = 2 ∨ j = 3 ∨ j = 4 ∨ j = 5 ∨ j = 6 ∨ j = 7 := by omega
    rcases hj2 with rfl | rfl | rfl | rfl | rfl | rfl | rfl | rfl
    · exact va_eqt (hs (.eq (.elem (.static "VolcanoWatch" "STEP_X" "[I") (.int 0)) (.int (1))) (by decide +kernel))
    · exact va_eqt (hs (.eq (.elem (.static "VolcanoWatch" "STEP_X" "[I") (.int 1)) (.int (1))) (by decide +kernel))
    · exact va_eqt (hs (.eq (.elem (.static "VolcanoWatch" "STEP_X" "[I") (.int 2)) (.int (0))) (by decide +kernel))
    · exact va_eqt (hs (.eq (.elem (.static "VolcanoWatch" "STEP_X" "[I") (.int 3)) (.int (-1))) (by decide +kernel))
    · exact va_eqt (hs (.eq (.elem (.static "VolcanoWatch" "STEP_X" "[I") (.int 4)) (.int (-1))) (by decide +kernel))
    · exact va_eqt (hs (.eq (.elem (.static "VolcanoWatch" "STEP_X" "[I") (.int 5)) (.int (-1))) (by decide +kernel))
    · exact va_eqt (hs (.eq (.elem (.static "VolcanoWatch" "STEP_X" "[I") (.int 6)) (.int (0))) (by decide +kernel))
    · exact va_eqt (hs (.eq (.elem (.static "VolcanoWatch" "STEP_X" "[I") (.int 7)) (.int (1))) (by decide +kernel))) (fun a ha => Nat.not_le.mpr ha)
  have hZ2 := va_Zof (A := fun q => s.heap.size ≤ q) (hts _ (ztb_in 6 (List.mem_of_getElem? (i := 3) rfl))) (hts _ (zT_tbl (zi 1 1 rfl rfl))) ht2 (fun a ha => Nat.not_le.mpr ha)
  obtain ⟨t3, ht3, hT3⟩ := va_Tof (args := #[Value.ref b]) (tm := .static "VolcanoWatch" "STEP_Y" "[I") (ty := .int) (N := 8) (f := fun j => .int (Int32.ofInt (([0, 1, 1, 1, 0, -1, -1, -1] : List Int).getD j 0))) (A := fun q => s.heap.size ≤ q) (by decide) (hs (.arrayOf (.static "VolcanoWatch" "STEP_Y" "[I") .int) (by decide +kernel)) (va_eqt (hs (.eq (.length (.static "VolcanoWatch" "STEP_Y" "[I")) (.int 8)) (by decide +kernel))) (fun j hj => by
    have hj2 : j = 0 ∨ j = 1 ∨ j = 2 ∨ j = 3 ∨ j = 4 ∨ j = 5 ∨ j = 6 ∨ j = 7 := by omega
    rcases hj2 with rfl | rfl | rfl | rfl | rfl | rfl | rfl | rfl
    · exact va_eqt (hs (.eq (.elem (.static "VolcanoWatch" "STEP_Y" "[I") (.int 0)) (.int (0))) (by decide +kernel))
    · exact va_eqt (hs (.eq (.elem (.static "VolcanoWatch" "STEP_Y" "[I") (.int 1)) (.int (1))) (by decide +kernel))
    · exact va_eqt (hs (.eq (.elem (.static "VolcanoWatch" "STEP_Y" "[I") (.int 2)) (.int (1))) (by decide +kernel))
    · exact va_eqt (hs (.eq (.elem (.static "VolcanoWatch" "STEP_Y" "[I") (.int 3)) (.int (1))) (by decide +kernel))
    · exact va_eqt (hs (.eq (.elem (.static "VolcanoWatch" "STEP_Y" "[I") (.int 4)) (.int (0))) (by decide +kernel))
    · exact va_eqt (hs (.eq (.elem (.static "VolcanoWatch" "STEP_Y" "[I") (.int 5)) (.int (-1))) (by decide +kernel))
    · exact va_eqt (hs (.eq (.elem (.static "VolcanoWatch" "STEP_Y" "[I") (.int 6)) (.int (-1))) (by decide +kernel))
    · exact va_eqt (hs (.eq (.elem (.static "VolcanoWatch" "STEP_Y" "[I") (.int 7)) (.int (-1))) (by decide +kernel))) (fun a ha => Nat.not_le.mpr ha)
  have hZ3 := va_Zof (A := fun q => s.heap.size ≤ q) (hts _ (ztb_in 6 (List.mem_of_getElem? (i := 5) rfl))) (hts _ (zT_tbl (zi 1 1 rfl rfl))) ht3 (fun a ha => Nat.not_le.mpr ha)
  obtain ⟨adK, adV, hSw, hEw⟩ := vk_Sof (args := #[Value.ref b]) (s := s) (N := 1) (tm := fun _ => .string "VolcanoWatch$Tape" 54) (len := [77]) (byt := [zWby]) (A := fun q => s.heap.size ≤ q) (fun i hi => by
      have : i = 0 := by omega
      subst this
      decide)
    (fun i hi => hs (.exactly (.string "VolcanoWatch$Tape" 54) "java/lang/String") (by decide +kernel)) (fun i hi => hs (.eq (.field (.string "VolcanoWatch$Tape" 54) "java/lang/String" "coder" "B") (.int 0)) (by decide +kernel))
    (fun i hi => hs (.arrayOf (.field (.string "VolcanoWatch$Tape" 54) "java/lang/String" "value" "[B") .byte) (by decide +kernel)) (fun i hi => by
      have : i = 0 := by omega
      subst this
      exact hs (.eq (.length (.field (.string "VolcanoWatch$Tape" 54) "java/lang/String" "value" "[B")) (.int 77)) (by decide +kernel)) (fun i hi j hj => by
      have : i = 0 := by omega
      subst this
      exact zst_words hs j hj) (fun i j hi hj hij => absurd (by omega) hij) (fun a ha => Nat.not_le.mpr ha)
  have hSw2 : vk_S 1 [77] [zWby] (fun _ => adK 0) (fun _ => adV 0) (fun q => s.heap.size ≤ q) s s.heap := ⟨fun i hi => by
    have : i = 0 := by omega
    subst this
    exact hSw.1 0 hi, fun i j hi hj _ => by omega⟩
  obtain ⟨am0, -, -, -, hem0, -⟩ := Cond.exactly_spec (args := #[Value.ref b]) (first := s) (o := none) (s := s) (idx := []) (t := .string "VolcanoWatch" 319) (cls := "java/lang/String") (hs (.exactly (.string "VolcanoWatch" 319) "java/lang/String") (by decide +kernel))
  obtain ⟨am1, -, -, -, hem1, -⟩ := Cond.exactly_spec (args := #[Value.ref b]) (first := s) (o := none) (s := s) (idx := []) (t := .string "VolcanoWatch" 335) (cls := "java/lang/String") (hs (.exactly (.string "VolcanoWatch" 335) "java/lang/String") (by decide +kernel))
  obtain ⟨t4, hZ4⟩ : ∃ t4 : Nat, va_Z zPrc "SIOOBE_FORMATTER" "Ljava/util/function/BiFunction;" .null (fun q => s.heap.size ≤ q) s s.heap ∨ va_Z zPrc "SIOOBE_FORMATTER" "Ljava/util/function/BiFunction;" (.ref t4) (fun q => s.heap.size ≤ q) s s.heap := by
    have h9 : va_Zq zPrc "SIOOBE_FORMATTER" "Ljava/util/function/BiFunction;" (fun q => s.heap.size ≤ q) s s.heap := va_Zqof (hts _ (ztb_in 3 (List.mem_of_getElem? (i := 122) rfl))) (hts _ (ztb_in 1 (List.mem_of_getElem? (i := 18) rfl))) (hs (.isRef (.static "jdk/internal/util/Preconditions" "SIOOBE_FORMATTER" "Ljava/util/function/BiFunction;")) (by decide +kernel)) (fun a ha => Nat.not_le.mpr ha)
    rcases h9 with h9 | ⟨t, h9⟩
    · exact ⟨0, Or.inl h9⟩
    · exact ⟨t, Or.inr h9⟩
  obtain ⟨E, hE⟩ : ∃ E : zE, E = (l, D, tA, s.heap.size, (fun k => if k = 100 then b else if k = 204 then t4 else if k = 200 then adK 0 else if k = 201 then adV 0 else if k = 202 then am0 else if k = 203 then am1 else if k = 2 then t2 else if k = 3 then t3 else 0), L, xs) := ⟨_, rfl⟩
  have hK : va_K E.2.1 vwCl (ztys E) s := by
    rw [hE]
    exact ⟨hD, htA l D _ _ L xs⟩
  have hEx : zEx E s := by
    rw [hE]
    refine ⟨fun q hq => va_Nw.of rfl (hts _ (zst_nestM q hq)), fun q hq => va_Nw.of rfl (hts _ (zst_nestF q hq)), fun q hq => ?_, ⟨fun C hC => va_AO.of (hts _ (zst_ao C hC)), ⟨hst, vx_Zqof (hts _ (ztb_in 6 (List.mem_of_getElem? (i := 46) rfl))) (hts _ (ztb_in 1 (List.mem_of_getElem? (i := 21) rfl))) (hs (.isRef (.static "java/lang/Throwable" "UNASSIGNED_STACK" "[Ljava/lang/StackTraceElement;")) (by decide +kernel)) (fun a ha => Nat.not_le.mpr ha), vx_Zqof (hts _ (ztb_in 6 (List.mem_of_getElem? (i := 48) rfl))) (hts _ (ztb_in 1 (List.mem_of_getElem? (i := 21) rfl))) (hs (.isRef (.static "java/lang/Throwable" "SUPPRESSED_SENTINEL" "Ljava/util/List;")) (by decide +kernel)) (fun a ha => Nat.not_le.mpr ha),
      va_Nc.of (hs (.not (.castable "java/util/NoSuchElementException" "java/lang/IndexOutOfBoundsException")) (by decide +kernel)), va_Nw.of rfl (hts _ (ztb_in 6 (List.mem_of_getElem? (i := 21) rfl))), va_Nw.of rfl (hts _ (ztb_in 6 (List.mem_of_getElem? (i := 87) rfl))),
      vk_R.of (hts _ (ztb_in 3 (List.mem_of_getElem? (i := 96) rfl))) (hEw 0 (by omega)), ⟨vk_R.of (hts _ (ztb_in 6 (List.mem_of_getElem? (i := 59) rfl))) hem0, vk_R.of (hts _ (ztb_in 6 (List.mem_of_getElem? (i := 94) rfl))) hem1⟩, hSw2,
      va_Zof (hts _ (ztb_in 3 (List.mem_of_getElem? (i := 106) rfl))) (hts _ (ztb_in 1 (List.mem_of_getElem? (i := 16) rfl))) (va_eqt (hs (.eq (.static "java/lang/String" "COMPACT_STRINGS" "Z") (.int 1)) (by decide +kernel))) (fun a ha => Nat.not_le.mpr ha), hZ4, zst_dcs hts⟩⟩, hX, hbl⟩
    simp only [zOuts, List.mem_cons, List.not_mem_nil, or_false] at hq
    rcases hq with rfl | rfl
    · exact ⟨hZ2, hT2⟩
    · exact ⟨hZ3, hT3⟩
  have hl := lv_entry ([.ref b]) (n := 7) (Nat.le_of_ble_eq_true rfl)
  rw [lg_entry_eq]
  generalize (lg_sl ([.ref b]) ++ List.replicate (7 - (lg_sl ([.ref b])).length) Slot.unset).toArray = ls at hl ⊢
  have hl : lv_has ls 7 [(0, .ref b)] := hl
  have hl2 : lv_has ls 7 (([(0, .inr (.inr (-100)))] : List (Nat × zV)).map fun q => (q.1, zv E q.2)) := by
    show lv_has ls 7 [(0, zv E (.inr (.inr (-100))))]
    rw [zv_scr, hE]
    exact hl
  have hL1 : E.2.2.2.2.2.1 = L := by rw [hE]
  have hL2 : E.2.2.2.2.2.2 = xs := by rw [hE]
  have hB : E.2.2.2.1 = s.heap.size := by rw [hE]
  have hl1 : E.1 = l := by rw [hE]
  have key := h E hL1 hL2 p e s m #[Value.ref b] below meth c s.heap [] ls ⟨⟨hx, hb, hml, hown, fun w hw => hts w (zT_tbl hw), hr, hlocks, hK, by rw [hB]; exact Nat.le_refl _, hEx, fun h => absurd h (by decide)⟩, fun _ => by rw [hB]; rfl⟩ (fun k q hq => by simp [zw] at hq) va_S.rf hl2
  rw [hl1] at key
  intro T hT X
  obtain ⟨t, h1, o, h2, h3, ⟨r, N', M', hq, ho, hH, hF⟩, LL, hFE, hLL⟩ := key T hT X
  refine ⟨t, h1, o, h2, h3, ?_, ?_⟩
  · rw [ho, hq]
    rfl
  · obtain ⟨g1, g2, g3⟩ := hFE
    exact ⟨g1, g2, zst_forget g3 (fun q hq => by have := hLL q hq; rw [← hB]; exact this)⟩
