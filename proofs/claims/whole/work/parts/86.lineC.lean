/-! a line's value: the class -/
/-- the class's op of a knot of two -/
def opk (o : Int) : Int := if o = 2 then 14 else if o = 3 then 13 else if o < 25 then o - 14 else o - 24
def opTwo (o : Int) : Prop := o = 2 ∨ o = 3 ∨ (21 ≤ o ∧ o ≤ 30)
/-- the class's knot j is the reference's knot a -/
def opRel (M : zM) (f j a : Nat) : Prop :=
  (M (f + 1) j = 16 ∧ M 113 a = 0 ∧ M (f + 3) j = M 116 a) ∨
  ((5 ≤ M (f + 1) j ∧ M (f + 1) j ≤ 11) ∧ M 113 a = 15 ∧ M (f + 1) j = M 117 a ∧ M (f + 2) j = M 118 a ∧ M (f + 3) j = M 116 a) ∨
  (M (f + 1) j = 31 ∧ M 113 a = 11) ∨ (M (f + 1) j = 4 ∧ M 113 a = 12) ∨ (opTwo (M (f + 1) j) ∧ M 113 a = opk (M (f + 1) j))
def bkRel (M : zM) (f l : Nat) : Prop := M (f + 5) l = M 121 l + M 122 l ∧ (l = 0 → M 121 l = 0) ∧ (∀ l', l = l' + 1 → M (f + 5) l' = M 121 l) ∧ ∀ i : Nat, (i : Int) < M 122 l → opRel M f (M 121 l + i).toNat (M 119 (M 121 l + i).toNat).toNat
theorem c_asNumber {E : zE} {M : zM} {Q : Int → zM → Prop} {t : Int} (ht : t = 0 ∨ t = 1) (h : Q t M) : zP E mX6_asNumber [.inl t] M Q := by
  refine vcX6_asNumber _ ?_
  rcases ht with rfl | rfl
  · exact ⟨zRd rfl, fun _ => h, fun q => absurd rfl q⟩
  · exact ⟨zRd rfl, fun q => absurd q (by decide), fun _ => h⟩
/-- a value of the class, once it is looked at for its size -/
def cut12 (x : Int) : Int := if 1000000000000 < x ∨ x < -1000000000000 then NV else x
theorem cut_in {x : Int} (h : inB x) : cut12 x = x := by
  unfold inB at h
  unfold cut12
  rw [if_neg (by omega)]
theorem cut_nv : cut12 NV = NV := by
  unfold cut12 NV
  rw [if_pos (by omega)]
theorem c_product {E : zE} {M : zM} {Q : Int → zM → Prop} {a b : Int} (ha : inB a) (hb : inB b) (h : Q (mkv 9 a b) M) : zP E mX6_product [.inr (.inl a), .inr (.inl b)] M Q := by
  have h : Q (if a ≠ 0 ∧ Int.tdiv 1000000000000 (absI a) < absI b then NV else a * b) M := h
  unfold inB at ha hb
  refine vcX6_product _ _ ?_
  have fin : ∀ x y : Int, x = absI a → y = absI b → ((zL x) ∧ ((x = 0 → Q (a * b) M) ∧ (¬ x = 0 → (zL x ∧ x ≠ 0) ∧ ((zL y ∧ zL (Int.tdiv 1000000000000 x)) ∧ ((y ≤ (Int.tdiv 1000000000000 x) → Q (a * b) M) ∧ ((Int.tdiv 1000000000000 x) < y → Q (-9223372036854775808) M)))))) := by
    intro x y hx hy
    rw [← hx, ← hy] at h
    have x1 : 0 ≤ x ∧ x ≤ 1000000000000 ∧ (x = 0 ↔ a = 0) := by
      rw [hx]; unfold absI; split <;> omega
    have y1 : 0 ≤ y ∧ y ≤ 1000000000000 := by
      rw [hy]; unfold absI; split <;> omega
    refine ⟨by unfold zL; omega, fun q => ?_, fun q => ?_⟩
    · rw [if_neg (fun q2 => q2.1 (x1.2.2.mp q))] at h
      exact h
    · have td := tdiv_lt (x := 1000000000000) (y := x) (by omega) (by omega)
      refine ⟨⟨by unfold zL; omega, q⟩, ⟨by unfold zL; omega, by unfold zL; omega⟩, fun q2 => ?_, fun q2 => ?_⟩
      · rw [if_neg (fun q3 => by omega)] at h
        exact h
      · rw [if_pos ⟨fun q3 => q (x1.2.2.mpr q3), q2⟩] at h
        exact h
  have la : zL a := by unfold zL; omega
  have lb : zL b := by unfold zL; omega
  refine ⟨la, fun q1 => ⟨lb, fun q2 => fin a b (by unfold absI; rw [if_neg (by omega)]) (by unfold absI; rw [if_neg (by omega)]), fun q2 => fin a (-b) (by unfold absI; rw [if_neg (by omega)]) (by unfold absI; rw [if_pos q2])⟩, fun q1 => ⟨lb, fun q2 => fin (-a) b (by unfold absI; rw [if_pos q1]) (by unfold absI; rw [if_neg (by omega)]), fun q2 => fin (-a) (-b) (by unfold absI; rw [if_pos q1]) (by unfold absI; rw [if_pos q2])⟩⟩
theorem c_join {E : zE} {M : zM} {Q : Int → zM → Prop} {o a b : Int} (ho : opTwo o) (ha : inB a) (hb : inB b) (h : ∀ x, zL x → cut12 x = mkv (opk o) a b → Q x M) : zP E mX6_join [.inl o, .inr (.inl a), .inr (.inl b)] M Q := by
  have la : zL a := okb_L (Or.inr ha)
  have lb : zL b := okb_L (Or.inr hb)
  have n01 : ∀ t : Int, (t = 0 ∨ t = 1) → mkv (opk o) a b = t → Q t M := by
    intro t ht e
    refine h t (by unfold zL; omega) ?_
    rw [e]
    exact cut_in (by unfold inB; omega)
  have hz : zR o := by unfold opTwo at ho; unfold zR; omega
  have h12 : o = 2 ∨ o = 3 ∨ o = 21 ∨ o = 22 ∨ o = 23 ∨ o = 24 ∨ o = 25 ∨ o = 26 ∨ o = 27 ∨ o = 28 ∨ o = 29 ∨ o = 30 := by unfold opTwo at ho; omega
  refine vcX6_join _ _ _ ?_
  unfold inB at ha hb
  rcases h12 with rfl | rfl | rfl | rfl | rfl | rfl | rfl | rfl | rfl | rfl | rfl | rfl
  · have n01 : ∀ t : Int, (t = 0 ∨ t = 1) → (if a ≠ 0 ∨ b ≠ 0 then (1 : Int) else 0) = t → Q t M := n01
    have k : (zL a) ∧ ((¬ a = 0 → (zP E mX6_asNumber [.inl 1] M (fun r1 M2 => Q r1 M2))) ∧ (a = 0 → ((zL b) ∧ ((b = 0 → (zP E mX6_asNumber [.inl 0] M (fun r3 M4 => Q r3 M4))) ∧ (¬ b = 0 → (zP E mX6_asNumber [.inl 1] M (fun r5 M6 => Q r5 M6))))))) := ⟨la, fun q => c_asNumber (Or.inr rfl) (n01 1 (Or.inr rfl) (by rw [if_pos (Or.inl q)])), fun q => ⟨lb, fun q2 => c_asNumber (Or.inl rfl) (n01 0 (Or.inl rfl) (by rw [if_neg (fun q3 => q3.elim (fun q4 => q4 q) (fun q4 => q4 q2))])), fun q2 => c_asNumber (Or.inr rfl) (n01 1 (Or.inr rfl) (by rw [if_pos (Or.inr q2)]))⟩⟩
    simp [hz]
    exact k
  · have n01 : ∀ t : Int, (t = 0 ∨ t = 1) → (if a ≠ 0 ∧ b ≠ 0 then (1 : Int) else 0) = t → Q t M := n01
    have k : (zL a) ∧ ((a = 0 → (zP E mX6_asNumber [.inl 0] M (fun r7 M8 => Q r7 M8))) ∧ (¬ a = 0 → ((zL b) ∧ ((b = 0 → (zP E mX6_asNumber [.inl 0] M (fun r9 M10 => Q r9 M10))) ∧ (¬ b = 0 → (zP E mX6_asNumber [.inl 1] M (fun r11 M12 => Q r11 M12))))))) := ⟨la, fun q => c_asNumber (Or.inl rfl) (n01 0 (Or.inl rfl) (by rw [if_neg (fun q3 => q3.1 q)])), fun q => ⟨lb, fun q2 => c_asNumber (Or.inl rfl) (n01 0 (Or.inl rfl) (by rw [if_neg (fun q3 => q3.2 q2)])), fun q2 => c_asNumber (Or.inr rfl) (n01 1 (Or.inr rfl) (by rw [if_pos ⟨q, q2⟩]))⟩⟩
    simp [hz]
    exact k
  · have h : ∀ x, zL x → cut12 x = (if 1000000000000 < absI (a + b) then NV else a + b) → Q x M := h
    have k : Q (a + b) M := h _ (by unfold zL; omega) (by unfold cut12 absI; grind)
    simp [hz]
    exact k
  · have h : ∀ x, zL x → cut12 x = (if 1000000000000 < absI (a - b) then NV else a - b) → Q x M := h
    have k : Q (a - b) M := h _ (by unfold zL; omega) (by unfold cut12 absI; grind)
    simp [hz]
    exact k
  · have h : ∀ x, zL x → cut12 x = mkv 9 a b → Q x M := h
    have ok := mkv_r (k := 9) ha hb
    have k : zP E mX6_product [.inr (.inl a), .inr (.inl b)] M (fun r13 M14 => Q r13 M14) := c_product ha hb (h _ (okb_L ok) (by rcases ok with q | q; rw [q]; exact cut_nv; exact cut_in q))
    simp [hz]
    exact k
  · have h : ∀ x, zL x → cut12 x = (if b = 0 then NV else Int.tdiv a b) → Q x M := h
    have k : (zL b) ∧ ((¬ b = 0 → (zL a ∧ zL b ∧ b ≠ 0) ∧ Q (Int.tdiv a b) M) ∧ (b = 0 → Q (-9223372036854775808) M)) := by
      have h1 := Int.natAbs_tdiv_le_natAbs a b
      refine ⟨lb, fun q => ⟨⟨la, lb, q⟩, h _ (by unfold zL; omega) ?_⟩, fun q => h _ (by unfold zL; omega) ?_⟩
      · rw [if_neg q]
        exact cut_in (by unfold inB; omega)
      · rw [if_pos q]
        exact cut_nv
    simp [hz]
    exact k
  · have n01 : ∀ t : Int, (t = 0 ∨ t = 1) → (if a < b then (1 : Int) else 0) = t → Q t M := n01
    have k : ((zL a ∧ zL b) ∧ ((b ≤ a → (zP E mX6_asNumber [.inl 0] M (fun r15 M16 => Q r15 M16))) ∧ (a < b → (zP E mX6_asNumber [.inl 1] M (fun r17 M18 => Q r17 M18))))) := ⟨⟨la, lb⟩, fun q => c_asNumber (Or.inl rfl) (n01 0 (Or.inl rfl) (by rw [if_neg (by omega)])), fun q => c_asNumber (Or.inr rfl) (n01 1 (Or.inr rfl) (by rw [if_pos q]))⟩
    simp [hz]
    exact k
  · have n01 : ∀ t : Int, (t = 0 ∨ t = 1) → (if a ≤ b then (1 : Int) else 0) = t → Q t M := n01
    have k : ((zL a ∧ zL b) ∧ ((b < a → (zP E mX6_asNumber [.inl 0] M (fun r15 M16 => Q r15 M16))) ∧ (a ≤ b → (zP E mX6_asNumber [.inl 1] M (fun r17 M18 => Q r17 M18))))) := ⟨⟨la, lb⟩, fun q => c_asNumber (Or.inl rfl) (n01 0 (Or.inl rfl) (by rw [if_neg (by omega)])), fun q => c_asNumber (Or.inr rfl) (n01 1 (Or.inr rfl) (by rw [if_pos q]))⟩
    simp [hz]
    exact k
  · have n01 : ∀ t : Int, (t = 0 ∨ t = 1) → (if a = b then (1 : Int) else 0) = t → Q t M := n01
    have k : ((zL a ∧ zL b) ∧ ((¬ a = b → (zP E mX6_asNumber [.inl 0] M (fun r15 M16 => Q r15 M16))) ∧ (a = b → (zP E mX6_asNumber [.inl 1] M (fun r17 M18 => Q r17 M18))))) := ⟨⟨la, lb⟩, fun q => c_asNumber (Or.inl rfl) (n01 0 (Or.inl rfl) (by rw [if_neg q])), fun q => c_asNumber (Or.inr rfl) (n01 1 (Or.inr rfl) (by rw [if_pos q]))⟩
    simp [hz]
    exact k
  · have n01 : ∀ t : Int, (t = 0 ∨ t = 1) → (if a = b then (0 : Int) else 1) = t → Q t M := n01
    have k : ((zL a ∧ zL b) ∧ ((a = b → (zP E mX6_asNumber [.inl 0] M (fun r15 M16 => Q r15 M16))) ∧ (¬ a = b → (zP E mX6_asNumber [.inl 1] M (fun r17 M18 => Q r17 M18))))) := ⟨⟨la, lb⟩, fun q => c_asNumber (Or.inl rfl) (n01 0 (Or.inl rfl) (by rw [if_pos q])), fun q => c_asNumber (Or.inr rfl) (n01 1 (Or.inr rfl) (by rw [if_neg q]))⟩
    simp [hz]
    exact k
  · have n01 : ∀ t : Int, (t = 0 ∨ t = 1) → (if b ≤ a then (1 : Int) else 0) = t → Q t M := n01
    have k : ((zL a ∧ zL b) ∧ ((a < b → (zP E mX6_asNumber [.inl 0] M (fun r15 M16 => Q r15 M16))) ∧ (b ≤ a → (zP E mX6_asNumber [.inl 1] M (fun r17 M18 => Q r17 M18))))) := ⟨⟨la, lb⟩, fun q => c_asNumber (Or.inl rfl) (n01 0 (Or.inl rfl) (by rw [if_neg (by omega)])), fun q => c_asNumber (Or.inr rfl) (n01 1 (Or.inr rfl) (by rw [if_pos q]))⟩
    simp [hz]
    exact k
  · have n01 : ∀ t : Int, (t = 0 ∨ t = 1) → (if b < a then (1 : Int) else 0) = t → Q t M := n01
    have k : ((zL a ∧ zL b) ∧ ((a ≤ b → (zP E mX6_asNumber [.inl 0] M (fun r15 M16 => Q r15 M16))) ∧ (b < a → (zP E mX6_asNumber [.inl 1] M (fun r17 M18 => Q r17 M18))))) := ⟨⟨la, lb⟩, fun q => c_asNumber (Or.inl rfl) (n01 0 (Or.inl rfl) (by rw [if_neg (by omega)])), fun q => c_asNumber (Or.inr rfl) (n01 1 (Or.inr rfl) (by rw [if_pos q]))⟩
    simp [hz]
    exact k
