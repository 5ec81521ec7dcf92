/-! arrays that the constructors leave as they are -/
def sS : Nat → Bool := fun a => [103, 3, 104, 21, 105, 106, 107, 108, 109, 24, 29, 128, 30, 129, 31, 130, 131, 32, 162, 45, 67, 163, 68, 164].contains a
def Zs (M : zM) : Prop := ∀ a : Nat, sS a = true → ∀ i : Nat, M a i = 0
def Zl (M : zM) : Prop := ∀ j : Nat, j < 800 → M 22 j = -1
theorem zst_up {M : zM} {x j : Nat} {v : Int} (hx : sS x = false) (h : Zs M) : Zs (zup M x j v) := fun a ha i => by
  rw [zup_q, if_neg (fun q => by rw [q.1, hx] at ha; cases ha)]
  exact h a ha i
theorem zst_al {M : zM} {n : Nat} {kd : Nat × Nat} (hn : sS n = true → zdef kd = fun _ => 0) (h : Zs M) : Zs (zal M n kd) := fun a ha i => by
  unfold zal
  by_cases q : a = n
  · rw [if_pos q, hn (by rw [← q]; exact ha)]
  · rw [if_neg q]
    exact h a ha i
theorem zst_fill {M : zM} {x n : Nat} {v : Int} (hx : sS x = false) (h : Zs M) : Zs (zfill M x n v) := fun a ha i => by
  unfold zfill
  rw [if_neg (fun q => by rw [q, hx] at ha; cases ha)]
  exact h a ha i
theorem zlt_up {M : zM} {x j : Nat} {v : Int} (hx : x ≠ 22) (h : Zl M) : Zl (zup M x j v) := fun i hi => by
  rw [zup_q, if_neg (fun q => hx q.1.symm)]
  exact h i hi
theorem zlt_al {M : zM} {n : Nat} {kd : Nat × Nat} (hn : n ≠ 22) (h : Zl M) : Zl (zal M n kd) := fun i hi => by
  rw [zal_ne _ _ (Ne.symm hn)]
  exact h i hi
theorem zlt_fill {M : zM} : Zl (zfill M 22 800 (-1)) := fun i hi => by
  unfold zfill
  rw [if_pos rfl]
  show (if i < 800 then (-1 : Int) else _) = -1
  rw [if_pos hi]
set_option maxRecDepth 20000 in
theorem zst_nM_2 {M : zM} (h : Zs M) : Zs (nM_2 M) := by
  refine zst_up (by decide) ?_
  refine zst_al (fun _ => rfl) ?_
  exact h
set_option maxRecDepth 20000 in
theorem zlt_nM_2 {M : zM} (h : Zl M) : Zl (nM_2 M) := by
  refine zlt_up (by decide) ?_
  refine zlt_al (by decide) ?_
  exact h
set_option maxRecDepth 20000 in
theorem zst_nM_1 {M : zM} (h : Zs M) : Zs (nM_1 M) := by
  refine zst_up (by decide) ?_
  refine zst_al (fun q => absurd q (by decide)) ?_
  refine zst_up (by decide) ?_
  refine zst_al (fun q => absurd q (by decide)) ?_
  refine zst_up (by decide) ?_
  refine zst_up (by decide) ?_
  refine zst_nM_2 ?_
  refine zst_al (fun q => absurd q (by decide)) ?_
  exact h
set_option maxRecDepth 20000 in
theorem zlt_nM_1 {M : zM} (h : Zl M) : Zl (nM_1 M) := by
  refine zlt_up (by decide) ?_
  refine zlt_al (by decide) ?_
  refine zlt_up (by decide) ?_
  refine zlt_al (by decide) ?_
  refine zlt_up (by decide) ?_
  refine zlt_up (by decide) ?_
  refine zlt_nM_2 ?_
  refine zlt_al (by decide) ?_
  exact h
set_option maxRecDepth 20000 in
theorem zst_nM_6 {M : zM} (h : Zs M) : Zs (nM_6 M) := by
  refine zst_up (by decide) ?_
  refine zst_al (fun q => absurd q (by decide)) ?_
  refine zst_up (by decide) ?_
  refine zst_al (fun q => absurd q (by decide)) ?_
  refine zst_up (by decide) ?_
  refine zst_al (fun q => absurd q (by decide)) ?_
  refine zst_up (by decide) ?_
  refine zst_al (fun q => absurd q (by decide)) ?_
  refine zst_up (by decide) ?_
  refine zst_al (fun q => absurd q (by decide)) ?_
  refine zst_up (by decide) ?_
  refine zst_al (fun q => absurd q (by decide)) ?_
  exact h
set_option maxRecDepth 20000 in
theorem zlt_nM_6 {M : zM} (h : Zl M) : Zl (nM_6 M) := by
  refine zlt_up (by decide) ?_
  refine zlt_al (by decide) ?_
  refine zlt_up (by decide) ?_
  refine zlt_al (by decide) ?_
  refine zlt_up (by decide) ?_
  refine zlt_al (by decide) ?_
  refine zlt_up (by decide) ?_
  refine zlt_al (by decide) ?_
  refine zlt_up (by decide) ?_
  refine zlt_al (by decide) ?_
  refine zlt_up (by decide) ?_
  refine zlt_al (by decide) ?_
  exact h
set_option maxRecDepth 20000 in
theorem zst_nM_13 {M : zM} (h : Zs M) : Zs (nM_13 M) := by
  refine zst_up (by decide) ?_
  refine zst_al (fun q => absurd q (by decide)) ?_
  refine zst_up (by decide) ?_
  refine zst_al (fun q => absurd q (by decide)) ?_
  refine zst_up (by decide) ?_
  refine zst_al (fun q => absurd q (by decide)) ?_
  refine zst_up (by decide) ?_
  refine zst_al (fun q => absurd q (by decide)) ?_
  refine zst_up (by decide) ?_
  refine zst_al (fun q => absurd q (by decide)) ?_
  refine zst_up (by decide) ?_
  refine zst_al (fun q => absurd q (by decide)) ?_
  exact h
set_option maxRecDepth 20000 in
theorem zlt_nM_13 {M : zM} (h : Zl M) : Zl (nM_13 M) := by
  refine zlt_up (by decide) ?_
  refine zlt_al (by decide) ?_
  refine zlt_up (by decide) ?_
  refine zlt_al (by decide) ?_
  refine zlt_up (by decide) ?_
  refine zlt_al (by decide) ?_
  refine zlt_up (by decide) ?_
  refine zlt_al (by decide) ?_
  refine zlt_up (by decide) ?_
  refine zlt_al (by decide) ?_
  refine zlt_up (by decide) ?_
  refine zlt_al (by decide) ?_
  exact h
set_option maxRecDepth 20000 in
theorem zst_nM_26 {M : zM} (h : Zs M) : Zs (nM_26 M) := by
  exact h
set_option maxRecDepth 20000 in
theorem zlt_nM_26 {M : zM} (h : Zl M) : Zl (nM_26 M) := by
  exact h
set_option maxRecDepth 20000 in
theorem zst_nM_20 {M : zM} (h : Zs M) : Zs (nM_20 M) := by
  refine zst_fill (by decide) ?_
  refine zst_up (by decide) ?_
  refine zst_nM_26 ?_
  refine zst_al (fun q => absurd q (by decide)) ?_
  refine zst_up (by decide) ?_
  refine zst_al (fun q => absurd q (by decide)) ?_
  refine zst_up (by decide) ?_
  refine zst_al (fun _ => rfl) ?_
  refine zst_up (by decide) ?_
  refine zst_al (fun q => absurd q (by decide)) ?_
  refine zst_up (by decide) ?_
  refine zst_al (fun q => absurd q (by decide)) ?_
  refine zst_up (by decide) ?_
  refine zst_al (fun _ => rfl) ?_
  exact h
set_option maxRecDepth 20000 in
theorem zlt_nM_20 {M : zM} : Zl (nM_20 M) := by
  exact zlt_fill
set_option maxRecDepth 20000 in
theorem zst_nM_28 {M : zM} (h : Zs M) : Zs (nM_28 M) := by
  refine zst_up (by decide) ?_
  refine zst_al (fun _ => rfl) ?_
  refine zst_up (by decide) ?_
  refine zst_al (fun _ => rfl) ?_
  refine zst_up (by decide) ?_
  refine zst_al (fun _ => rfl) ?_
  refine zst_up (by decide) ?_
  refine zst_al (fun _ => rfl) ?_
  refine zst_up (by decide) ?_
  refine zst_up (by decide) ?_
  exact h
set_option maxRecDepth 20000 in
theorem zlt_nM_28 {M : zM} (h : Zl M) : Zl (nM_28 M) := by
  refine zlt_up (by decide) ?_
  refine zlt_al (by decide) ?_
  refine zlt_up (by decide) ?_
  refine zlt_al (by decide) ?_
  refine zlt_up (by decide) ?_
  refine zlt_al (by decide) ?_
  refine zlt_up (by decide) ?_
  refine zlt_al (by decide) ?_
  refine zlt_up (by decide) ?_
  refine zlt_up (by decide) ?_
  exact h
set_option maxRecDepth 20000 in
theorem zst_nM_35 {M : zM} (h : Zs M) : Zs (nM_35 M) := by
  refine zst_up (by decide) ?_
  refine zst_al (fun q => absurd q (by decide)) ?_
  refine zst_up (by decide) ?_
  refine zst_al (fun q => absurd q (by decide)) ?_
  refine zst_up (by decide) ?_
  refine zst_al (fun q => absurd q (by decide)) ?_
  refine zst_up (by decide) ?_
  refine zst_al (fun q => absurd q (by decide)) ?_
  refine zst_up (by decide) ?_
  refine zst_al (fun q => absurd q (by decide)) ?_
  refine zst_up (by decide) ?_
  refine zst_al (fun q => absurd q (by decide)) ?_
  refine zst_up (by decide) ?_
  refine zst_al (fun q => absurd q (by decide)) ?_
  refine zst_up (by decide) ?_
  refine zst_al (fun q => absurd q (by decide)) ?_
  exact h
set_option maxRecDepth 20000 in
theorem zlt_nM_35 {M : zM} (h : Zl M) : Zl (nM_35 M) := by
  refine zlt_up (by decide) ?_
  refine zlt_al (by decide) ?_
  refine zlt_up (by decide) ?_
  refine zlt_al (by decide) ?_
  refine zlt_up (by decide) ?_
  refine zlt_al (by decide) ?_
  refine zlt_up (by decide) ?_
  refine zlt_al (by decide) ?_
  refine zlt_up (by decide) ?_
  refine zlt_al (by decide) ?_
  refine zlt_up (by decide) ?_
  refine zlt_al (by decide) ?_
  refine zlt_up (by decide) ?_
  refine zlt_al (by decide) ?_
  refine zlt_up (by decide) ?_
  refine zlt_al (by decide) ?_
  exact h
set_option maxRecDepth 20000 in
theorem zst_nM_44 {M : zM} (h : Zs M) : Zs (nM_44 M) := by
  refine zst_up (by decide) ?_
  refine zst_al (fun q => absurd q (by decide)) ?_
  refine zst_up (by decide) ?_
  refine zst_al (fun q => absurd q (by decide)) ?_
  refine zst_up (by decide) ?_
  refine zst_al (fun q => absurd q (by decide)) ?_
  refine zst_up (by decide) ?_
  refine zst_al (fun q => absurd q (by decide)) ?_
  refine zst_up (by decide) ?_
  refine zst_al (fun q => absurd q (by decide)) ?_
  refine zst_up (by decide) ?_
  refine zst_al (fun q => absurd q (by decide)) ?_
  refine zst_up (by decide) ?_
  refine zst_al (fun q => absurd q (by decide)) ?_
  refine zst_up (by decide) ?_
  refine zst_al (fun q => absurd q (by decide)) ?_
  refine zst_up (by decide) ?_
  refine zst_al (fun q => absurd q (by decide)) ?_
  refine zst_up (by decide) ?_
  refine zst_al (fun q => absurd q (by decide)) ?_
  refine zst_up (by decide) ?_
  refine zst_al (fun q => absurd q (by decide)) ?_
  refine zst_up (by decide) ?_
  refine zst_al (fun _ => rfl) ?_
  exact h
set_option maxRecDepth 20000 in
theorem zlt_nM_44 {M : zM} (h : Zl M) : Zl (nM_44 M) := by
  refine zlt_up (by decide) ?_
  refine zlt_al (by decide) ?_
  refine zlt_up (by decide) ?_
  refine zlt_al (by decide) ?_
  refine zlt_up (by decide) ?_
  refine zlt_al (by decide) ?_
  refine zlt_up (by decide) ?_
  refine zlt_al (by decide) ?_
  refine zlt_up (by decide) ?_
  refine zlt_al (by decide) ?_
  refine zlt_up (by decide) ?_
  refine zlt_al (by decide) ?_
  refine zlt_up (by decide) ?_
  refine zlt_al (by decide) ?_
  refine zlt_up (by decide) ?_
  refine zlt_al (by decide) ?_
  refine zlt_up (by decide) ?_
  refine zlt_al (by decide) ?_
  refine zlt_up (by decide) ?_
  refine zlt_al (by decide) ?_
  refine zlt_up (by decide) ?_
  refine zlt_al (by decide) ?_
  refine zlt_up (by decide) ?_
  refine zlt_al (by decide) ?_
  exact h
set_option maxRecDepth 20000 in
theorem zst_nM_57 {M : zM} (h : Zs M) : Zs (nM_57 M) := by
  refine zst_up (by decide) ?_
  refine zst_al (fun q => absurd q (by decide)) ?_
  refine zst_up (by decide) ?_
  refine zst_al (fun q => absurd q (by decide)) ?_
  refine zst_up (by decide) ?_
  refine zst_al (fun q => absurd q (by decide)) ?_
  refine zst_up (by decide) ?_
  refine zst_al (fun q => absurd q (by decide)) ?_
  refine zst_up (by decide) ?_
  refine zst_al (fun q => absurd q (by decide)) ?_
  refine zst_up (by decide) ?_
  refine zst_al (fun q => absurd q (by decide)) ?_
  refine zst_up (by decide) ?_
  refine zst_al (fun q => absurd q (by decide)) ?_
  refine zst_up (by decide) ?_
  refine zst_al (fun q => absurd q (by decide)) ?_
  exact h
set_option maxRecDepth 20000 in
theorem zlt_nM_57 {M : zM} (h : Zl M) : Zl (nM_57 M) := by
  refine zlt_up (by decide) ?_
  refine zlt_al (by decide) ?_
  refine zlt_up (by decide) ?_
  refine zlt_al (by decide) ?_
  refine zlt_up (by decide) ?_
  refine zlt_al (by decide) ?_
  refine zlt_up (by decide) ?_
  refine zlt_al (by decide) ?_
  refine zlt_up (by decide) ?_
  refine zlt_al (by decide) ?_
  refine zlt_up (by decide) ?_
  refine zlt_al (by decide) ?_
  refine zlt_up (by decide) ?_
  refine zlt_al (by decide) ?_
  refine zlt_up (by decide) ?_
  refine zlt_al (by decide) ?_
  exact h
set_option maxRecDepth 20000 in
theorem zst_nM_69 {M : zM} (h : Zs M) : Zs (nM_69 M) := by
  exact h
set_option maxRecDepth 20000 in
theorem zlt_nM_69 {M : zM} (h : Zl M) : Zl (nM_69 M) := by
  exact h
set_option maxRecDepth 20000 in
theorem zst_nM_70 {M : zM} (h : Zs M) : Zs (nM_70 M) := by
  refine zst_up (by decide) ?_
  refine zst_al (fun q => absurd q (by decide)) ?_
  refine zst_up (by decide) ?_
  refine zst_al (fun q => absurd q (by decide)) ?_
  refine zst_up (by decide) ?_
  refine zst_al (fun q => absurd q (by decide)) ?_
  refine zst_up (by decide) ?_
  refine zst_al (fun q => absurd q (by decide)) ?_
  refine zst_up (by decide) ?_
  refine zst_al (fun q => absurd q (by decide)) ?_
  refine zst_up (by decide) ?_
  refine zst_al (fun q => absurd q (by decide)) ?_
  refine zst_up (by decide) ?_
  refine zst_al (fun q => absurd q (by decide)) ?_
  refine zst_up (by decide) ?_
  refine zst_al (fun q => absurd q (by decide)) ?_
  exact h
set_option maxRecDepth 20000 in
theorem zlt_nM_70 {M : zM} (h : Zl M) : Zl (nM_70 M) := by
  refine zlt_up (by decide) ?_
  refine zlt_al (by decide) ?_
  refine zlt_up (by decide) ?_
  refine zlt_al (by decide) ?_
  refine zlt_up (by decide) ?_
  refine zlt_al (by decide) ?_
  refine zlt_up (by decide) ?_
  refine zlt_al (by decide) ?_
  refine zlt_up (by decide) ?_
  refine zlt_al (by decide) ?_
  refine zlt_up (by decide) ?_
  refine zlt_al (by decide) ?_
  refine zlt_up (by decide) ?_
  refine zlt_al (by decide) ?_
  refine zlt_up (by decide) ?_
  refine zlt_al (by decide) ?_
  exact h
set_option maxRecDepth 20000 in
theorem zst_nM_79 {M : zM} (h : Zs M) : Zs (nM_79 M) := by
  exact h
set_option maxRecDepth 20000 in
theorem zlt_nM_79 {M : zM} (h : Zl M) : Zl (nM_79 M) := by
  exact h
set_option maxRecDepth 20000 in
theorem zst_nM_80 {M : zM} (h : Zs M) : Zs (nM_80 M) := by
  refine zst_up (by decide) ?_
  refine zst_al (fun q => absurd q (by decide)) ?_
  refine zst_up (by decide) ?_
  refine zst_al (fun q => absurd q (by decide)) ?_
  refine zst_up (by decide) ?_
  refine zst_al (fun q => absurd q (by decide)) ?_
  refine zst_up (by decide) ?_
  refine zst_al (fun q => absurd q (by decide)) ?_
  refine zst_up (by decide) ?_
  refine zst_al (fun q => absurd q (by decide)) ?_
  refine zst_up (by decide) ?_
  refine zst_al (fun q => absurd q (by decide)) ?_
  refine zst_up (by decide) ?_
  refine zst_al (fun q => absurd q (by decide)) ?_
  refine zst_up (by decide) ?_
  refine zst_al (fun q => absurd q (by decide)) ?_
  exact h
set_option maxRecDepth 20000 in
theorem zlt_nM_80 {M : zM} (h : Zl M) : Zl (nM_80 M) := by
  refine zlt_up (by decide) ?_
  refine zlt_al (by decide) ?_
  refine zlt_up (by decide) ?_
  refine zlt_al (by decide) ?_
  refine zlt_up (by decide) ?_
  refine zlt_al (by decide) ?_
  refine zlt_up (by decide) ?_
  refine zlt_al (by decide) ?_
  refine zlt_up (by decide) ?_
  refine zlt_al (by decide) ?_
  refine zlt_up (by decide) ?_
  refine zlt_al (by decide) ?_
  refine zlt_up (by decide) ?_
  refine zlt_al (by decide) ?_
  refine zlt_up (by decide) ?_
  refine zlt_al (by decide) ?_
  exact h
set_option maxRecDepth 20000 in
theorem zst_nM_89 {M : zM} (h : Zs M) : Zs (nM_89 M) := by
  exact h
set_option maxRecDepth 20000 in
theorem zlt_nM_89 {M : zM} (h : Zl M) : Zl (nM_89 M) := by
  exact h
set_option maxRecDepth 20000 in
theorem zst_nM_90 {M : zM} (h : Zs M) : Zs (nM_90 M) := by
  refine zst_up (by decide) ?_
  refine zst_al (fun q => absurd q (by decide)) ?_
  refine zst_up (by decide) ?_
  refine zst_al (fun q => absurd q (by decide)) ?_
  refine zst_up (by decide) ?_
  refine zst_al (fun q => absurd q (by decide)) ?_
  refine zst_up (by decide) ?_
  refine zst_al (fun q => absurd q (by decide)) ?_
  refine zst_up (by decide) ?_
  refine zst_al (fun q => absurd q (by decide)) ?_
  refine zst_up (by decide) ?_
  refine zst_al (fun q => absurd q (by decide)) ?_
  refine zst_up (by decide) ?_
  refine zst_al (fun q => absurd q (by decide)) ?_
  refine zst_up (by decide) ?_
  refine zst_al (fun q => absurd q (by decide)) ?_
  exact h
set_option maxRecDepth 20000 in
theorem zlt_nM_90 {M : zM} (h : Zl M) : Zl (nM_90 M) := by
  refine zlt_up (by decide) ?_
  refine zlt_al (by decide) ?_
  refine zlt_up (by decide) ?_
  refine zlt_al (by decide) ?_
  refine zlt_up (by decide) ?_
  refine zlt_al (by decide) ?_
  refine zlt_up (by decide) ?_
  refine zlt_al (by decide) ?_
  refine zlt_up (by decide) ?_
  refine zlt_al (by decide) ?_
  refine zlt_up (by decide) ?_
  refine zlt_al (by decide) ?_
  refine zlt_up (by decide) ?_
  refine zlt_al (by decide) ?_
  refine zlt_up (by decide) ?_
  refine zlt_al (by decide) ?_
  exact h
set_option maxRecDepth 20000 in
theorem zst_nM_99 {M : zM} (h : Zs M) : Zs (nM_99 M) := by
  exact h
set_option maxRecDepth 20000 in
theorem zlt_nM_99 {M : zM} (h : Zl M) : Zl (nM_99 M) := by
  exact h
set_option maxRecDepth 20000 in
theorem zst_nM_100 {M : zM} (h : Zs M) : Zs (nM_100 M) := by
  exact h
set_option maxRecDepth 20000 in
theorem zlt_nM_100 {M : zM} (h : Zl M) : Zl (nM_100 M) := by
  exact h
set_option maxRecDepth 20000 in
theorem zst_nM_101 {M : zM} (h : Zs M) : Zs (nM_101 M) := by
  exact h
set_option maxRecDepth 20000 in
theorem zlt_nM_101 {M : zM} (h : Zl M) : Zl (nM_101 M) := by
  exact h
set_option maxRecDepth 20000 in
theorem zst_nM_0 {M : zM} (h : Zs M) : Zs (nM_0 M) := by
  refine zst_up (by decide) ?_
  refine zst_nM_101 ?_
  refine zst_al (fun q => absurd q (by decide)) ?_
  refine zst_up (by decide) ?_
  refine zst_nM_100 ?_
  refine zst_al (fun q => absurd q (by decide)) ?_
  refine zst_up (by decide) ?_
  refine zst_nM_99 ?_
  refine zst_al (fun q => absurd q (by decide)) ?_
  refine zst_up (by decide) ?_
  refine zst_nM_90 ?_
  refine zst_al (fun q => absurd q (by decide)) ?_
  refine zst_up (by decide) ?_
  refine zst_nM_89 ?_
  refine zst_al (fun q => absurd q (by decide)) ?_
  refine zst_up (by decide) ?_
  refine zst_nM_80 ?_
  refine zst_al (fun q => absurd q (by decide)) ?_
  refine zst_up (by decide) ?_
  refine zst_nM_79 ?_
  refine zst_al (fun q => absurd q (by decide)) ?_
  refine zst_up (by decide) ?_
  refine zst_nM_70 ?_
  refine zst_al (fun q => absurd q (by decide)) ?_
  refine zst_up (by decide) ?_
  refine zst_nM_69 ?_
  refine zst_al (fun q => absurd q (by decide)) ?_
  refine zst_up (by decide) ?_
  refine zst_al (fun _ => rfl) ?_
  refine zst_up (by decide) ?_
  refine zst_al (fun _ => rfl) ?_
  refine zst_up (by decide) ?_
  refine zst_al (fun q => absurd q (by decide)) ?_
  refine zst_up (by decide) ?_
  refine zst_nM_57 ?_
  refine zst_al (fun q => absurd q (by decide)) ?_
  refine zst_up (by decide) ?_
  refine zst_nM_44 ?_
  refine zst_al (fun q => absurd q (by decide)) ?_
  refine zst_up (by decide) ?_
  refine zst_nM_35 ?_
  refine zst_al (fun q => absurd q (by decide)) ?_
  refine zst_up (by decide) ?_
  refine zst_al (fun q => absurd q (by decide)) ?_
  refine zst_up (by decide) ?_
  refine zst_al (fun q => absurd q (by decide)) ?_
  refine zst_up (by decide) ?_
  refine zst_nM_28 ?_
  refine zst_al (fun q => absurd q (by decide)) ?_
  refine zst_up (by decide) ?_
  refine zst_al (fun q => absurd q (by decide)) ?_
  refine zst_up (by decide) ?_
  refine zst_nM_20 ?_
  refine zst_al (fun q => absurd q (by decide)) ?_
  refine zst_up (by decide) ?_
  refine zst_nM_13 ?_
  refine zst_al (fun q => absurd q (by decide)) ?_
  refine zst_up (by decide) ?_
  refine zst_nM_6 ?_
  refine zst_al (fun q => absurd q (by decide)) ?_
  refine zst_up (by decide) ?_
  refine zst_nM_1 ?_
  refine zst_al (fun q => absurd q (by decide)) ?_
  exact h
set_option maxRecDepth 20000 in
theorem zlt_nM_0 {M : zM} : Zl (nM_0 M) := by
  refine zlt_up (by decide) ?_
  refine zlt_nM_101 ?_
  refine zlt_al (by decide) ?_
  refine zlt_up (by decide) ?_
  refine zlt_nM_100 ?_
  refine zlt_al (by decide) ?_
  refine zlt_up (by decide) ?_
  refine zlt_nM_99 ?_
  refine zlt_al (by decide) ?_
  refine zlt_up (by decide) ?_
  refine zlt_nM_90 ?_
  refine zlt_al (by decide) ?_
  refine zlt_up (by decide) ?_
  refine zlt_nM_89 ?_
  refine zlt_al (by decide) ?_
  refine zlt_up (by decide) ?_
  refine zlt_nM_80 ?_
  refine zlt_al (by decide) ?_
  refine zlt_up (by decide) ?_
  refine zlt_nM_79 ?_
  refine zlt_al (by decide) ?_
  refine zlt_up (by decide) ?_
  refine zlt_nM_70 ?_
  refine zlt_al (by decide) ?_
  refine zlt_up (by decide) ?_
  refine zlt_nM_69 ?_
  refine zlt_al (by decide) ?_
  refine zlt_up (by decide) ?_
  refine zlt_al (by decide) ?_
  refine zlt_up (by decide) ?_
  refine zlt_al (by decide) ?_
  refine zlt_up (by decide) ?_
  refine zlt_al (by decide) ?_
  refine zlt_up (by decide) ?_
  refine zlt_nM_57 ?_
  refine zlt_al (by decide) ?_
  refine zlt_up (by decide) ?_
  refine zlt_nM_44 ?_
  refine zlt_al (by decide) ?_
  refine zlt_up (by decide) ?_
  refine zlt_nM_35 ?_
  refine zlt_al (by decide) ?_
  refine zlt_up (by decide) ?_
  refine zlt_al (by decide) ?_
  refine zlt_up (by decide) ?_
  refine zlt_al (by decide) ?_
  refine zlt_up (by decide) ?_
  refine zlt_nM_28 ?_
  refine zlt_al (by decide) ?_
  refine zlt_up (by decide) ?_
  refine zlt_al (by decide) ?_
  refine zlt_up (by decide) ?_
  exact zlt_nM_20
set_option maxRecDepth 20000 in
theorem zst_nM_102 {M : zM} (h : Zs M) : Zs (nM_102 M) := by
  refine zst_up (by decide) ?_
  refine zst_al (fun _ => rfl) ?_
  refine zst_up (by decide) ?_
  refine zst_al (fun _ => rfl) ?_
  refine zst_up (by decide) ?_
  refine zst_al (fun _ => rfl) ?_
  refine zst_up (by decide) ?_
  refine zst_al (fun q => absurd q (by decide)) ?_
  refine zst_up (by decide) ?_
  refine zst_al (fun q => absurd q (by decide)) ?_
  refine zst_up (by decide) ?_
  refine zst_al (fun q => absurd q (by decide)) ?_
  refine zst_up (by decide) ?_
  refine zst_al (fun q => absurd q (by decide)) ?_
  refine zst_up (by decide) ?_
  refine zst_al (fun q => absurd q (by decide)) ?_
  refine zst_up (by decide) ?_
  refine zst_al (fun q => absurd q (by decide)) ?_
  refine zst_up (by decide) ?_
  refine zst_al (fun q => absurd q (by decide)) ?_
  refine zst_up (by decide) ?_
  refine zst_al (fun q => absurd q (by decide)) ?_
  refine zst_up (by decide) ?_
  refine zst_al (fun q => absurd q (by decide)) ?_
  refine zst_up (by decide) ?_
  refine zst_al (fun q => absurd q (by decide)) ?_
  refine zst_up (by decide) ?_
  refine zst_al (fun q => absurd q (by decide)) ?_
  refine zst_up (by decide) ?_
  refine zst_al (fun q => absurd q (by decide)) ?_
  refine zst_up (by decide) ?_
  refine zst_al (fun q => absurd q (by decide)) ?_
  refine zst_up (by decide) ?_
  refine zst_al (fun q => absurd q (by decide)) ?_
  refine zst_up (by decide) ?_
  refine zst_al (fun q => absurd q (by decide)) ?_
  refine zst_up (by decide) ?_
  refine zst_al (fun q => absurd q (by decide)) ?_
  refine zst_up (by decide) ?_
  refine zst_al (fun q => absurd q (by decide)) ?_
  refine zst_up (by decide) ?_
  refine zst_al (fun q => absurd q (by decide)) ?_
  refine zst_up (by decide) ?_
  refine zst_al (fun q => absurd q (by decide)) ?_
  refine zst_up (by decide) ?_
  refine zst_al (fun q => absurd q (by decide)) ?_
  refine zst_up (by decide) ?_
  refine zst_al (fun q => absurd q (by decide)) ?_
  refine zst_up (by decide) ?_
  refine zst_al (fun q => absurd q (by decide)) ?_
  refine zst_up (by decide) ?_
  refine zst_al (fun q => absurd q (by decide)) ?_
  refine zst_up (by decide) ?_
  refine zst_al (fun q => absurd q (by decide)) ?_
  refine zst_up (by decide) ?_
  refine zst_al (fun q => absurd q (by decide)) ?_
  refine zst_up (by decide) ?_
  refine zst_al (fun q => absurd q (by decide)) ?_
  refine zst_up (by decide) ?_
  refine zst_al (fun q => absurd q (by decide)) ?_
  refine zst_up (by decide) ?_
  refine zst_al (fun q => absurd q (by decide)) ?_
  refine zst_up (by decide) ?_
  refine zst_al (fun q => absurd q (by decide)) ?_
  refine zst_up (by decide) ?_
  refine zst_al (fun q => absurd q (by decide)) ?_
  refine zst_up (by decide) ?_
  refine zst_al (fun _ => rfl) ?_
  refine zst_up (by decide) ?_
  refine zst_al (fun _ => rfl) ?_
  refine zst_up (by decide) ?_
  refine zst_al (fun _ => rfl) ?_
  refine zst_up (by decide) ?_
  refine zst_al (fun _ => rfl) ?_
  refine zst_up (by decide) ?_
  refine zst_up (by decide) ?_
  refine zst_up (by decide) ?_
  refine zst_al (fun q => absurd q (by decide)) ?_
  refine zst_up (by decide) ?_
  refine zst_al (fun q => absurd q (by decide)) ?_
  refine zst_up (by decide) ?_
  refine zst_al (fun q => absurd q (by decide)) ?_
  refine zst_up (by decide) ?_
  refine zst_al (fun q => absurd q (by decide)) ?_
  refine zst_up (by decide) ?_
  refine zst_al (fun q => absurd q (by decide)) ?_
  refine zst_up (by decide) ?_
  refine zst_al (fun q => absurd q (by decide)) ?_
  refine zst_up (by decide) ?_
  refine zst_al (fun q => absurd q (by decide)) ?_
  refine zst_up (by decide) ?_
  refine zst_al (fun q => absurd q (by decide)) ?_
  refine zst_up (by decide) ?_
  refine zst_al (fun q => absurd q (by decide)) ?_
  refine zst_up (by decide) ?_
  refine zst_al (fun q => absurd q (by decide)) ?_
  refine zst_up (by decide) ?_
  refine zst_al (fun q => absurd q (by decide)) ?_
  refine zst_up (by decide) ?_
  refine zst_al (fun q => absurd q (by decide)) ?_
  refine zst_up (by decide) ?_
  refine zst_al (fun q => absurd q (by decide)) ?_
  refine zst_up (by decide) ?_
  refine zst_al (fun q => absurd q (by decide)) ?_
  refine zst_up (by decide) ?_
  refine zst_al (fun q => absurd q (by decide)) ?_
  refine zst_up (by decide) ?_
  refine zst_up (by decide) ?_
  refine zst_up (by decide) ?_
  refine zst_up (by decide) ?_
  refine zst_up (by decide) ?_
  refine zst_up (by decide) ?_
  refine zst_up (by decide) ?_
  refine zst_up (by decide) ?_
  refine zst_up (by decide) ?_
  refine zst_up (by decide) ?_
  refine zst_up (by decide) ?_
  refine zst_up (by decide) ?_
  refine zst_up (by decide) ?_
  refine zst_up (by decide) ?_
  refine zst_up (by decide) ?_
  refine zst_up (by decide) ?_
  refine zst_up (by decide) ?_
  refine zst_up (by decide) ?_
  refine zst_up (by decide) ?_
  refine zst_up (by decide) ?_
  refine zst_up (by decide) ?_
  refine zst_up (by decide) ?_
  refine zst_up (by decide) ?_
  refine zst_up (by decide) ?_
  refine zst_up (by decide) ?_
  refine zst_up (by decide) ?_
  refine zst_up (by decide) ?_
  refine zst_up (by decide) ?_
  refine zst_up (by decide) ?_
  refine zst_up (by decide) ?_
  refine zst_up (by decide) ?_
  refine zst_up (by decide) ?_
  refine zst_up (by decide) ?_
  refine zst_up (by decide) ?_
  refine zst_up (by decide) ?_
  refine zst_up (by decide) ?_
  refine zst_up (by decide) ?_
  refine zst_up (by decide) ?_
  refine zst_up (by decide) ?_
  refine zst_up (by decide) ?_
  refine zst_up (by decide) ?_
  refine zst_up (by decide) ?_
  refine zst_up (by decide) ?_
  refine zst_up (by decide) ?_
  refine zst_up (by decide) ?_
  refine zst_up (by decide) ?_
  refine zst_up (by decide) ?_
  refine zst_up (by decide) ?_
  refine zst_up (by decide) ?_
  refine zst_up (by decide) ?_
  refine zst_up (by decide) ?_
  refine zst_up (by decide) ?_
  refine zst_up (by decide) ?_
  refine zst_up (by decide) ?_
  refine zst_up (by decide) ?_
  refine zst_up (by decide) ?_
  refine zst_up (by decide) ?_
  refine zst_up (by decide) ?_
  refine zst_up (by decide) ?_
  refine zst_up (by decide) ?_
  refine zst_up (by decide) ?_
  refine zst_up (by decide) ?_
  refine zst_up (by decide) ?_
  refine zst_up (by decide) ?_
  refine zst_up (by decide) ?_
  refine zst_up (by decide) ?_
  refine zst_up (by decide) ?_
  refine zst_up (by decide) ?_
  refine zst_up (by decide) ?_
  refine zst_up (by decide) ?_
  refine zst_up (by decide) ?_
  refine zst_up (by decide) ?_
  refine zst_up (by decide) ?_
  refine zst_up (by decide) ?_
  refine zst_up (by decide) ?_
  refine zst_up (by decide) ?_
  refine zst_up (by decide) ?_
  refine zst_up (by decide) ?_
  refine zst_up (by decide) ?_
  refine zst_al (fun q => absurd q (by decide)) ?_
  refine zst_up (by decide) ?_
  refine zst_al (fun q => absurd q (by decide)) ?_
  refine zst_up (by decide) ?_
  refine zst_al (fun q => absurd q (by decide)) ?_
  refine zst_up (by decide) ?_
  refine zst_al (fun _ => rfl) ?_
  refine zst_up (by decide) ?_
  refine zst_al (fun _ => rfl) ?_
  refine zst_up (by decide) ?_
  refine zst_al (fun _ => rfl) ?_
  refine zst_up (by decide) ?_
  refine zst_al (fun _ => rfl) ?_
  refine zst_up (by decide) ?_
  refine zst_al (fun _ => rfl) ?_
  refine zst_up (by decide) ?_
  refine zst_al (fun _ => rfl) ?_
  refine zst_up (by decide) ?_
  refine zst_al (fun _ => rfl) ?_
  exact h
set_option maxRecDepth 20000 in
theorem zlt_nM_102 {M : zM} (h : Zl M) : Zl (nM_102 M) := by
  refine zlt_up (by decide) ?_
  refine zlt_al (by decide) ?_
  refine zlt_up (by decide) ?_
  refine zlt_al (by decide) ?_
  refine zlt_up (by decide) ?_
  refine zlt_al (by decide) ?_
  refine zlt_up (by decide) ?_
  refine zlt_al (by decide) ?_
  refine zlt_up (by decide) ?_
  refine zlt_al (by decide) ?_
  refine zlt_up (by decide) ?_
  refine zlt_al (by decide) ?_
  refine zlt_up (by decide) ?_
  refine zlt_al (by decide) ?_
  refine zlt_up (by decide) ?_
  refine zlt_al (by decide) ?_
  refine zlt_up (by decide) ?_
  refine zlt_al (by decide) ?_
  refine zlt_up (by decide) ?_
  refine zlt_al (by decide) ?_
  refine zlt_up (by decide) ?_
  refine zlt_al (by decide) ?_
  refine zlt_up (by decide) ?_
  refine zlt_al (by decide) ?_
  refine zlt_up (by decide) ?_
  refine zlt_al (by decide) ?_
  refine zlt_up (by decide) ?_
  refine zlt_al (by decide) ?_
  refine zlt_up (by decide) ?_
  refine zlt_al (by decide) ?_
  refine zlt_up (by decide) ?_
  refine zlt_al (by decide) ?_
  refine zlt_up (by decide) ?_
  refine zlt_al (by decide) ?_
  refine zlt_up (by decide) ?_
  refine zlt_al (by decide) ?_
  refine zlt_up (by decide) ?_
  refine zlt_al (by decide) ?_
  refine zlt_up (by decide) ?_
  refine zlt_al (by decide) ?_
  refine zlt_up (by decide) ?_
  refine zlt_al (by decide) ?_
  refine zlt_up (by decide) ?_
  refine zlt_al (by decide) ?_
  refine zlt_up (by decide) ?_
  refine zlt_al (by decide) ?_
  refine zlt_up (by decide) ?_
  refine zlt_al (by decide) ?_
  refine zlt_up (by decide) ?_
  refine zlt_al (by decide) ?_
  refine zlt_up (by decide) ?_
  refine zlt_al (by decide) ?_
  refine zlt_up (by decide) ?_
  refine zlt_al (by decide) ?_
  refine zlt_up (by decide) ?_
  refine zlt_al (by decide) ?_
  refine zlt_up (by decide) ?_
  refine zlt_al (by decide) ?_
  refine zlt_up (by decide) ?_
  refine zlt_al (by decide) ?_
  refine zlt_up (by decide) ?_
  refine zlt_al (by decide) ?_
  refine zlt_up (by decide) ?_
  refine zlt_al (by decide) ?_
  refine zlt_up (by decide) ?_
  refine zlt_al (by decide) ?_
  refine zlt_up (by decide) ?_
  refine zlt_al (by decide) ?_
  refine zlt_up (by decide) ?_
  refine zlt_al (by decide) ?_
  refine zlt_up (by decide) ?_
  refine zlt_al (by decide) ?_
  refine zlt_up (by decide) ?_
  refine zlt_al (by decide) ?_
  refine zlt_up (by decide) ?_
  refine zlt_up (by decide) ?_
  refine zlt_up (by decide) ?_
  refine zlt_al (by decide) ?_
  refine zlt_up (by decide) ?_
  refine zlt_al (by decide) ?_
  refine zlt_up (by decide) ?_
  refine zlt_al (by decide) ?_
  refine zlt_up (by decide) ?_
  refine zlt_al (by decide) ?_
  refine zlt_up (by decide) ?_
  refine zlt_al (by decide) ?_
  refine zlt_up (by decide) ?_
  refine zlt_al (by decide) ?_
  refine zlt_up (by decide) ?_
  refine zlt_al (by decide) ?_
  refine zlt_up (by decide) ?_
  refine zlt_al (by decide) ?_
  refine zlt_up (by decide) ?_
  refine zlt_al (by decide) ?_
  refine zlt_up (by decide) ?_
  refine zlt_al (by decide) ?_
  refine zlt_up (by decide) ?_
  refine zlt_al (by decide) ?_
  refine zlt_up (by decide) ?_
  refine zlt_al (by decide) ?_
  refine zlt_up (by decide) ?_
  refine zlt_al (by decide) ?_
  refine zlt_up (by decide) ?_
  refine zlt_al (by decide) ?_
  refine zlt_up (by decide) ?_
  refine zlt_al (by decide) ?_
  refine zlt_up (by decide) ?_
  refine zlt_up (by decide) ?_
  refine zlt_up (by decide) ?_
  refine zlt_up (by decide) ?_
  refine zlt_up (by decide) ?_
  refine zlt_up (by decide) ?_
  refine zlt_up (by decide) ?_
  refine zlt_up (by decide) ?_
  refine zlt_up (by decide) ?_
  refine zlt_up (by decide) ?_
  refine zlt_up (by decide) ?_
  refine zlt_up (by decide) ?_
  refine zlt_up (by decide) ?_
  refine zlt_up (by decide) ?_
  refine zlt_up (by decide) ?_
  refine zlt_up (by decide) ?_
  refine zlt_up (by decide) ?_
  refine zlt_up (by decide) ?_
  refine zlt_up (by decide) ?_
  refine zlt_up (by decide) ?_
  refine zlt_up (by decide) ?_
  refine zlt_up (by decide) ?_
  refine zlt_up (by decide) ?_
  refine zlt_up (by decide) ?_
  refine zlt_up (by decide) ?_
  refine zlt_up (by decide) ?_
  refine zlt_up (by decide) ?_
  refine zlt_up (by decide) ?_
  refine zlt_up (by decide) ?_
  refine zlt_up (by decide) ?_
  refine zlt_up (by decide) ?_
  refine zlt_up (by decide) ?_
  refine zlt_up (by decide) ?_
  refine zlt_up (by decide) ?_
  refine zlt_up (by decide) ?_
  refine zlt_up (by decide) ?_
  refine zlt_up (by decide) ?_
  refine zlt_up (by decide) ?_
  refine zlt_up (by decide) ?_
  refine zlt_up (by decide) ?_
  refine zlt_up (by decide) ?_
  refine zlt_up (by decide) ?_
  refine zlt_up (by decide) ?_
  refine zlt_up (by decide) ?_
  refine zlt_up (by decide) ?_
  refine zlt_up (by decide) ?_
  refine zlt_up (by decide) ?_
  refine zlt_up (by decide) ?_
  refine zlt_up (by decide) ?_
  refine zlt_up (by decide) ?_
  refine zlt_up (by decide) ?_
  refine zlt_up (by decide) ?_
  refine zlt_up (by decide) ?_
  refine zlt_up (by decide) ?_
  refine zlt_up (by decide) ?_
  refine zlt_up (by decide) ?_
  refine zlt_up (by decide) ?_
  refine zlt_up (by decide) ?_
  refine zlt_up (by decide) ?_
  refine zlt_up (by decide) ?_
  refine zlt_up (by decide) ?_
  refine zlt_up (by decide) ?_
  refine zlt_up (by decide) ?_
  refine zlt_up (by decide) ?_
  refine zlt_up (by decide) ?_
  refine zlt_up (by decide) ?_
  refine zlt_up (by decide) ?_
  refine zlt_up (by decide) ?_
  refine zlt_up (by decide) ?_
  refine zlt_up (by decide) ?_
  refine zlt_up (by decide) ?_
  refine zlt_up (by decide) ?_
  refine zlt_up (by decide) ?_
  refine zlt_up (by decide) ?_
  refine zlt_up (by decide) ?_
  refine zlt_up (by decide) ?_
  refine zlt_up (by decide) ?_
  refine zlt_up (by decide) ?_
  refine zlt_up (by decide) ?_
  refine zlt_al (by decide) ?_
  refine zlt_up (by decide) ?_
  refine zlt_al (by decide) ?_
  refine zlt_up (by decide) ?_
  refine zlt_al (by decide) ?_
  refine zlt_up (by decide) ?_
  refine zlt_al (by decide) ?_
  refine zlt_up (by decide) ?_
  refine zlt_al (by decide) ?_
  refine zlt_up (by decide) ?_
  refine zlt_al (by decide) ?_
  refine zlt_up (by decide) ?_
  refine zlt_al (by decide) ?_
  refine zlt_up (by decide) ?_
  refine zlt_al (by decide) ?_
  refine zlt_up (by decide) ?_
  refine zlt_al (by decide) ?_
  refine zlt_up (by decide) ?_
  refine zlt_al (by decide) ?_
  exact h
set_option maxRecDepth 20000 in
theorem zst_nM0 : Zs nM0 := by
  have h : Zs (fun _ _ => 0) := fun _ _ _ => rfl
  refine zst_al (fun q => absurd q (by decide)) ?_
  refine zst_nM_102 ?_
  refine zst_al (fun q => absurd q (by decide)) ?_
  refine zst_nM_0 ?_
  refine zst_al (fun q => absurd q (by decide)) ?_
  exact h
set_option maxRecDepth 20000 in
theorem zlt_nM0 : Zl nM0 := by
  refine zlt_al (by decide) ?_
  refine zlt_nM_102 ?_
  refine zlt_al (by decide) ?_
  exact zlt_nM_0
