/-! the claim out of the abstract machine's walk of the law -/
abbrev mL_law : zD := (yL_law, cL_law, 7, some .boolean, RL, room_1, 600002, 7302232)
theorem zT_tbl {w : Cond} (h : w ∈ zT) : w ∈ lw_tbl := (List.mem_filter.mp h).1
/-- every class's number and slots -/
theorem zst_cls {args : Array Value} {s : State} (hts : ∀ w ∈ lw_tbl, w.before args s = true) : ∃ D : va_G, ∀ (k : Nat) (q : vw_C), vwCl[k]? = some q → u_Kn s q.1 q.2.1 q.2.2 (D.1 k) (D.2 k) := by
  have key : ∀ k : Nat, ∃ (cC : ClassId) (iS : Nat → Nat), ∀ q : vw_C, vwCl[k]? = some q → u_Kn s q.1 q.2.1 q.2.2 cC iS := by
    intro k
    match k with
    | 0 => obtain ⟨cC, iS, h⟩ := u_known (C := RX0) (T := TX0) (N := 12) (n := 12) hts (fun w h => zT_tbl (uw_0 w h)) (hts _ (zT_tbl in_0)); exact ⟨cC, iS, fun q hq => by cases hq; exact h⟩
    | 1 => obtain ⟨cC, iS, h⟩ := u_known (C := RX1) (T := TX1) (N := 8) (n := 8) hts (fun w h => zT_tbl (uw_1 w h)) (hts _ (zT_tbl in_1)); exact ⟨cC, iS, fun q hq => by cases hq; exact h⟩
    | 2 => obtain ⟨cC, iS, h⟩ := u_known (C := RX2) (T := TX2) (N := 9) (n := 9) hts (fun w h => zT_tbl (uw_2 w h)) (hts _ (zT_tbl in_2)); exact ⟨cC, iS, fun q hq => by cases hq; exact h⟩
    | 3 => obtain ⟨cC, iS, h⟩ := u_known (C := RX3) (T := TX3) (N := 14) (n := 14) hts (fun w h => zT_tbl (uw_3 w h)) (hts _ (zT_tbl in_3)); exact ⟨cC, iS, fun q hq => by cases hq; exact h⟩
    | 4 => obtain ⟨cC, iS, h⟩ := u_known (C := RX4) (T := TX4) (N := 5) (n := 5) hts (fun w h => zT_tbl (uw_4 w h)) (hts _ (zT_tbl in_4)); exact ⟨cC, iS, fun q hq => by cases hq; exact h⟩
    | 5 => obtain ⟨cC, iS, h⟩ := u_known (C := RX5) (T := TX5) (N := 8) (n := 8) hts (fun w h => zT_tbl (uw_5 w h)) (hts _ (zT_tbl in_5)); exact ⟨cC, iS, fun q hq => by cases hq; exact h⟩
    | 6 => obtain ⟨cC, iS, h⟩ := u_known (C := RX6) (T := TX6) (N := 12) (n := 12) hts (fun w h => zT_tbl (uw_6 w h)) (hts _ (zT_tbl in_6)); exact ⟨cC, iS, fun q hq => by cases hq; exact h⟩
    | 7 => obtain ⟨cC, iS, h⟩ := u_known (C := RX7) (T := TX7) (N := 13) (n := 13) hts (fun w h => zT_tbl (uw_7 w h)) (hts _ (zT_tbl in_7)); exact ⟨cC, iS, fun q hq => by cases hq; exact h⟩
    | 8 => obtain ⟨cC, iS, h⟩ := u_known (C := RX8) (T := TX8) (N := 9) (n := 9) hts (fun w h => zT_tbl (uw_8 w h)) (hts _ (zT_tbl in_8)); exact ⟨cC, iS, fun q hq => by cases hq; exact h⟩
    | 9 => obtain ⟨cC, iS, h⟩ := u_known (C := RX9) (T := TX9) (N := 7) (n := 7) hts (fun w h => zT_tbl (uw_9 w h)) (hts _ (zT_tbl in_9)); exact ⟨cC, iS, fun q hq => by cases hq; exact h⟩
    | 10 => obtain ⟨cC, iS, h⟩ := u_known (C := RX10) (T := TX10) (N := 5) (n := 5) hts (fun w h => zT_tbl (uw_10 w h)) (hts _ (zT_tbl in_10)); exact ⟨cC, iS, fun q hq => by cases hq; exact h⟩
    | 11 => obtain ⟨cC, iS, h⟩ := u_known (C := RX11) (T := TX11) (N := 18) (n := 18) hts (fun w h => zT_tbl (uw_11 w h)) (hts _ (zT_tbl in_11)); exact ⟨cC, iS, fun q hq => by cases hq; exact h⟩
    | 12 => obtain ⟨cC, iS, h⟩ := u_known (C := RX12) (T := TX12) (N := 107) (n := 107) hts (fun w h => zT_tbl (uw_12 w h)) (hts _ (zT_tbl in_12)); exact ⟨cC, iS, fun q hq => by cases hq; exact h⟩
    | k + 13 => exact ⟨0, fun _ => 0, fun q hq => by simp [vwCl] at hq⟩
  refine ⟨(fun k => (key k).choose, fun k => (key k).choose_spec.choose), fun k q hq => (key k).choose_spec.choose_spec q hq⟩
theorem zst_arr {args : Array Value} {s : State} (hts : ∀ w ∈ lw_tbl, w.before args s = true) : ∃ tA : Nat → ClassId, ∀ (l : Launch) (D : va_G) (B : Nat) (xa : Nat → Nat) (L : Nat) (xs : Nat → Int32) (k : Nat) (q : ClassId × FieldType), (ztys (l, D, tA, B, xa, L, xs))[k]? = some q → ArrOfT s q.1 q.2 ∧ va_RA s q.1 q.2 := by
  obtain ⟨c0, k0, p0, a0, b0, d0⟩ := Cond.arrayClass_spec (hts (.arrayClass .int) (zT_tbl (zi 1 72 rfl rfl)))
  obtain ⟨c1, k1, p1, a1, b1, d1⟩ := Cond.arrayClass_spec (hts (.arrayClass .long) (zT_tbl (zi 1 167 rfl rfl)))
  obtain ⟨c2, k2, p2, a2, b2, d2⟩ := Cond.arrayClass_spec (hts (.arrayClass .boolean) (zT_tbl (zi 1 116 rfl rfl)))
  obtain ⟨p3, c3, k3, e3, -, b3, d3, a3⟩ := Cond.arrayOver_spec (hts (.arrayOver (.object RX0)) (ztb_in 2 (List.mem_of_getElem? (i := 40) rfl)))
  obtain ⟨p4, c4, k4, e4, -, b4, d4, a4⟩ := Cond.arrayOver_spec (hts (.arrayOver (.object RX4)) (ztb_in 2 (List.mem_of_getElem? (i := 187) rfl)))
  obtain ⟨p5, c5, k5, e5, -, b5, d5, a5⟩ := Cond.arrayOver_spec (hts (.arrayOver (.object RX10)) (ztb_in 2 (List.mem_of_getElem? (i := 38) rfl)))
  refine ⟨fun t => if t = 100 then c0 else if t = 101 then c1 else if t = 102 then c2 else if t = 103 then c3 else if t = 107 then c4 else c5, fun l D B xa L xs k q hq => ?_⟩
  match k, hq with
  | 0, hq => cases hq; exact ⟨fun n z => ⟨fun k h => (by cases h), k0, b0, p0, d0⟩, a0⟩
  | 1, hq => cases hq; exact ⟨fun n z => ⟨fun k h => (by cases h), k1, b1, p1, d1⟩, a1⟩
  | 2, hq => cases hq; exact ⟨fun n z => ⟨fun k h => (by cases h), k2, b2, p2, d2⟩, a2⟩
  | 3, hq => cases hq; exact ⟨fun n z => ⟨fun k h => (by cases h), k3, b3, p3, d3⟩, k3, p3, b3, d3, e3, a3⟩
  | 4, hq => cases hq; exact ⟨fun n z => ⟨fun k h => (by cases h), k4, b4, p4, d4⟩, k4, p4, b4, d4, e4, a4⟩
  | 5, hq => cases hq; exact ⟨fun n z => ⟨fun k h => (by cases h), k5, b5, p5, d5⟩, k5, p5, b5, d5, e5, a5⟩
  | k + 6, hq => simp [ztys] at hq
/-- what was written since lies behind the old heap: nothing old was written -/
theorem zst_forget {s t : State} {L : List Loc} {k n : Nat} (h : s.sameButNew t L k n) (hL : ∀ q ∈ L, s.heap.size ≤ q.base) : s.sameButNew t [] k n := by
  obtain ⟨h1, h2, h3, h4, h5, h6⟩ := h
  refine ⟨h1, h2, h3, h4, h5, fun a c hc => ?_⟩
  obtain ⟨c', g1, g2, g3, g4⟩ := h6 a c hc
  refine ⟨c', g1, g2, g3, fun i _ => g4 i (fun hm => ?_)⟩
  have h7 := hL _ hm
  have h8 := (Array.getElem?_eq_some_iff.mp hc).1
  have h9 : s.heap.size ≤ a := h7
  omega
