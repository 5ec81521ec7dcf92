/-! from the constructors' end to the law's loop -/
def nM0 : zM := nM (fun _ _ => 0)
def zFinOk : Bool := (List.range zKs.length).all (fun a => (List.range 120).all (fun j => match zFin a j with | none => true | some v => decide (nM0 a j = v)))
set_option maxRecDepth 100000 in
theorem zFinOk_t : zFinOk = true := by decide +kernel
theorem zFt_len : zFt.length = zKs.length ∧ ∀ r ∈ zFt, r.length ≤ 120 := by decide +kernel
theorem zFin_some {a j : Nat} {v : Int} (h : zFin a j = some v) : nM0 a j = v := by
  have ha : a < zKs.length := by
    rw [← zFt_len.1]
    apply Nat.lt_of_not_le
    intro hle
    have h1 : zFt.getD a [] = [] := by rw [List.getD_eq_getElem?_getD, List.getElem?_eq_none hle]; rfl
    unfold zFin at h
    rw [h1] at h
    simp at h
  have hj : j < 120 := by
    apply Nat.lt_of_not_le
    intro hle
    have h1 : (zFt.getD a []).getD j (-7) = -7 := by
      have h2 : (zFt.getD a []).length ≤ 120 := by
        rw [List.getD_eq_getElem?_getD]
        cases hr : zFt[a]? with
        | none => simp
        | some r => exact zFt_len.2 r (List.mem_of_getElem? hr)
      rw [List.getD_eq_getElem?_getD, List.getElem?_eq_none (by omega)]
      rfl
    unfold zFin at h
    rw [h1] at h
    simp at h
  have h1 := List.all_eq_true.mp zFinOk_t a (List.mem_range.mpr ha)
  have h2 := List.all_eq_true.mp h1 j (List.mem_range.mpr hj)
  rw [h] at h2
  exact of_decide_eq_true h2
set_option maxRecDepth 100000 in
theorem zw_switch (E : zE) {M : zM} (hM : ∀ a j v, zFin a j = some v → M a j = v) : zw E (zNk zKs.length) M = zw E zNN M := by
  have h1 : (zNk zKs.length).1 = zKs := by
    unfold zNk
    exact List.take_length
  unfold zw
  rw [h1]
  show _ = (List.range zKs.length).map _
  apply List.map_congr_left
  intro i _
  show (E.2.2.2.1 + i, zent E (zNk zKs.length) M i (zKs.getD i (0, 0))) = (E.2.2.2.1 + i, zent E zNN M i (zKs.getD i (0, 0)))
  congr 1
  unfold zent
  have hg : ∀ j, zg (zNk zKs.length) M i j = zg zNN M i j := fun j => by
    show M i j = (zFin i j).getD (M i j)
    cases hf : zFin i j with
    | none => rfl
    | some v => exact hM i j v hf
  simp only [hg]
set_option maxRecDepth 100000 in
theorem zr_switch {E : zE} {cu : Nat × Nat} {d : zD} {pc : Nat} {al : List (Nat × zV)} {st : List zV} {M : zM} {Q : Int → zM → Prop} (hM : ∀ a j v, zFin a j = some v → M a j = v) (k : zA E zNN cu d pc al st M (zQ Q)) : zA E (zNk zKs.length) cu d pc al st M (fun r _ M' => Q r M') := by
  have k2 : zA E zNN cu d pc al st M (fun r _ M' => Q r M') := zr_Q (fun r N' M' h => h.2) k
  intro p e s m args below meth c H locs ls hC hH hS hl
  refine k2 p e s m args below meth c H locs ls ⟨hC.1, fun h => by cases h⟩ ?_ hS hl
  unfold zH at hH ⊢
  rw [← zw_switch E hM]
  exact hH
set_option maxRecDepth 100000 in
/-- the whole claim, but for the law's loop over the memory behind the constructors -/
theorem open_law {E : zE} (h : zA E zNN (166, 31568) mL_law 23 [(4, .inl 0), (3, .inr (.inr 165)), (2, .inr (.inr 102)), (1, .inr (.inr 0)), (0, .inr (.inr (-100)))] [] nM0 (zQ (fun r _ => r = 1))) : zA E ([], fun _ _ => none, true) (0, 0) mL_law 0 [(0, .inr (.inr (-100)))] [] (fun _ _ => 0) (fun r _ _ => r = 1) := by
  refine law_begin ?_
  exact zr_switch (Q := fun r _ => r = 1) (fun a j v hf => zFin_some hf) h
