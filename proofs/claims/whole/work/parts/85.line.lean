/-! a line's value: the reference -/
def knF (M : zM) (k h0 : Int) (W : Nat → Int) (a : Nat) : Int :=
  if M 113 a = 0 then M 116 a else if M 113 a = 15 then whatF M k (M 117 a) (M 118 a) (M 116 a) h0 else if M 113 a = 11 then -(W (M 114 a).toNat) else if M 113 a = 12 then (if W (M 114 a).toNat = 0 then 1 else 0) else mkv (M 113 a) (W (M 114 a).toNat) (W (M 115 a).toNat)
def wup (W : Nat → Int) (a : Nat) (x : Int) : Nat → Int := fun b => if b = a then x else W b
/-- the first i knots of a line: what is worked out, and the last value; none once there is none -/
def lnV (M : zM) (k h0 : Int) (l : Nat) : Nat → Option ((Nat → Int) × Int)
  | 0 => some (fun _ => 0, NV)
  | i + 1 => match lnV M k h0 l i with
    | none => none
    | some s => if knF M k h0 s.1 (M 119 (M 121 l + i).toNat).toNat = NV then none else some (wup s.1 (M 119 (M 121 l + i).toNat).toNat (knF M k h0 s.1 (M 119 (M 121 l + i).toNat).toNat), knF M k h0 s.1 (M 119 (M 121 l + i).toNat).toNat)
def lineF (M : zM) (k h0 : Int) (l : Nat) : Int := match lnV M k h0 l (M 122 l).toNat with
  | none => NV
  | some s => s.2
theorem lnV_none {M : zM} {k h0 : Int} {l i : Nat} (h : lnV M k h0 l i = none) (j : Nat) : lnV M k h0 l (i + j) = none := by
  induction j with
  | zero => exact h
  | succ j ih => show (match lnV M k h0 l (i + j) with | none => none | some s => _) = none; rw [ih]
/-- how one knot goes on a stack of knots -/
def stp1 (M : zM) (a : Nat) (s s' : List Nat) : Prop :=
  (M 113 a = 0 ∧ (0 ≤ M 116 a ∧ M 116 a ≤ 99999) ∧ a ∉ s ∧ s' = a :: s) ∨
  (M 113 a = 15 ∧ (5 ≤ M 117 a ∧ M 117 a ≤ 11) ∧ (0 ≤ M 118 a ∧ M 118 a ≤ 3) ∧ (1 ≤ M 116 a ∧ M 116 a ≤ 48) ∧ a ∉ s ∧ s' = a :: s) ∨
  ((M 113 a = 11 ∨ M 113 a = 12) ∧ ∃ (b : Nat) (r : List Nat), M 114 a = (b : Int) ∧ b < 64 ∧ s = b :: r ∧ a ∉ r ∧ s' = a :: r) ∨
  (((1 ≤ M 113 a ∧ M 113 a ≤ 10) ∨ M 113 a = 13 ∨ M 113 a = 14) ∧ ∃ (b c : Nat) (r : List Nat), M 114 a = (b : Int) ∧ b < 64 ∧ M 115 a = (c : Int) ∧ c < 64 ∧ s = c :: b :: r ∧ a ∉ r ∧ s' = a :: r)
/-- a line is a good one: its knots go on a stack -/
def lnOk (M : zM) (l : Nat) (st : Nat → List Nat) : Prop := (0 ≤ M 121 l) ∧ (0 ≤ M 122 l) ∧ M 121 l + M 122 l ≤ 64 ∧ st 0 = [] ∧ ∀ i : Nat, (i : Int) < M 122 l → ∃ a : Nat, M 119 (M 121 l + i).toNat = (a : Int) ∧ a < 64 ∧ (st i).length < 64 ∧ stp1 M a (st i) (st (i + 1))
def inB (x : Int) : Prop := -1000000000000 ≤ x ∧ x ≤ 1000000000000
theorem knF_r {M : zM} {k h0 : Int} {W : Nat → Int} {a : Nat} {s s' : List Nat} (hR : rdOk M) (hp : 0 ≤ M 102 4 ∧ M 102 4 ≤ 8) (hh : 0 ≤ h0 ∧ h0 ≤ 99) (h1 : stp1 M a s s') (h2 : ∀ b, b ∈ s → inB (W b)) : okb (knF M k h0 W a) := by
  unfold knF
  rcases h1 with ⟨k1, k2, -⟩ | ⟨k1, k2, k3, k4, -⟩ | ⟨k1, b, r, e1, e2, e3, -⟩ | ⟨k1, b, c, r, e1, e2, e3, e4, e5, -⟩
  · rw [if_pos k1]
    exact Or.inr (by omega)
  · rw [if_neg (by omega), if_pos k1]
    rcases whatF_r (k := k) (ov := M 118 a) hR hp k2 k4 hh with q | q
    · exact Or.inl q
    · exact Or.inr (by omega)
  · have q := h2 b (by rw [e3]; exact List.mem_cons_self ..)
    rw [e1, Int.toNat_natCast]
    unfold inB at q
    rcases k1 with k1 | k1
    · rw [if_neg (by omega), if_neg (by omega), if_pos k1]
      exact Or.inr (by omega)
    · rw [if_neg (by omega), if_neg (by omega), if_neg (by omega), if_pos k1]
      exact okb_t _ _ _ (Or.inr rfl) (Or.inl rfl)
  · have q1 := h2 b (by rw [e5]; exact List.mem_cons_of_mem _ (List.mem_cons_self ..))
    have q2 := h2 c (by rw [e5]; exact List.mem_cons_self ..)
    rw [e1, e3, Int.toNat_natCast, Int.toNat_natCast, if_neg (by omega), if_neg (by omega), if_neg (by omega), if_neg (by omega)]
    exact mkv_r q1 q2
/-- what is on the stack stays within bounds -/
theorem stk_s {M : zM} {W : Nat → Int} {a : Nat} {x : Int} {s s' : List Nat} (h1 : stp1 M a s s') (hx : inB x) : ∃ r, s' = a :: r ∧ a ∉ r ∧ (∀ b, b ∈ r → b ∈ s) := by
  rcases h1 with ⟨-, -, q, e⟩ | ⟨-, -, -, -, q, e⟩ | ⟨-, b, r, -, -, e3, q, e⟩ | ⟨-, b, c, r, -, -, -, -, e5, q, e⟩
  · exact ⟨s, e, q, fun _ h => h⟩
  · exact ⟨s, e, q, fun _ h => h⟩
  · exact ⟨r, e, q, fun _ h => by rw [e3]; exact List.mem_cons_of_mem _ h⟩
  · exact ⟨r, e, q, fun _ h => by rw [e5]; exact List.mem_cons_of_mem _ (List.mem_cons_of_mem _ h)⟩
theorem okb_in {x : Int} (h : okb x) (h2 : ¬ x = NV) : inB x := h.resolve_left h2
theorem okb_L {x : Int} (h : okb x) : zL x := by
  unfold okb NV at h
  unfold zL
  omega
set_option maxHeartbeats 4000000 in
theorem r_lineValue {E : zE} {M M1 : zM} {Q : Int → zM → Prop} {k h0 : Int} {l : Nat} {st : Nat → List Nat} (hR : rdOk M) (hP : rPst M) (hK : knAt M M1 k) (hl : l < 24) (hh : 0 ≤ h0 ∧ h0 ≤ 99) (hO : lnOk M l st)
    (e0 : M1 102 4 = M 102 4) (e1 : M1 104 = M 104) (e2 : M1 122 = M 122) (e3 : M1 121 = M 121) (e4 : M1 119 = M 119) (e5 : M1 113 = M 113) (e6 : M1 114 = M 114) (e7 : M1 115 = M 115) (e8 : M1 116 = M 116) (e9 : M1 117 = M 117) (e10 : M1 118 = M 118)
    (h : ∀ M' : zM, (∀ x, x ≠ 127 → M' x = M1 x) → Q (lineF M k h0 l) M') : zP E mX12_lineValue [.inr (.inr 102), .inl (l : Int), .inl h0] M1 Q := by
  obtain ⟨o1, o2, o3, o4, o5⟩ := hO
  obtain ⟨m, hm⟩ : ∃ m : Nat, M 122 l = (m : Int) := ⟨(M 122 l).toNat, by omega⟩
  have hle : lineF M k h0 l = match lnV M k h0 l m with | none => NV | some s => s.2 := by unfold lineF; rw [hm, Int.toNat_natCast]
  rw [hle] at h
  refine vcX12_lineValue _ _ (fun n l1 l2 l3 l5 M' => ∃ (i : Nat) (W : Nat → Int), l1 = (l : Int) ∧ l2 = h0 ∧ l5 = (i : Int) ∧ i ≤ m ∧ n = 100 - i ∧ (∀ x, x ≠ 127 → M' x = M1 x) ∧ lnV M k h0 l i = some (W, l3) ∧ (∀ b, b ∈ st i → M' 127 b = W b ∧ inB (W b))) ⟨100, 0, fun _ => 0, rfl, rfl, rfl, by omega, rfl, fun _ _ => rfl, rfl, fun b hb => by rw [o4] at hb; cases hb⟩ ?_
  rintro n l1 l2 l3 l5 M' ⟨i, W, rfl, rfl, rfl, hi, rfl, fr, hv, hst⟩
  have le : (l : Int).toNat = l := Int.toNat_natCast l
  rw [le, fr 122 (by decide), fr 121 (by decide), fr 119 (by decide), fr 113 (by decide), fr 114 (by decide), fr 115 (by decide), fr 116 (by decide), fr 117 (by decide), fr 118 (by decide), e2, e3, e4, e5, e6, e7, e8, e9, e10, hm]
  refine ⟨by omega, ⟨by unfold zR; omega, by unfold zR; omega⟩, fun q => ?_, fun q => ⟨by omega, by omega, ?_⟩⟩
  · have im : i = m := by omega
    subst im
    rw [hv] at h
    exact h M' fr
  · obtain ⟨a, a1, a2, a3, a4⟩ := o5 i (by omega)
    have lnn : lnV M k l2 l (i + 1) = if knF M k l2 W a = NV then none else some (wup W a (knF M k l2 W a), knF M k l2 W a) := by
      show (match lnV M k l2 l i with | none => none | some s => _) = _
      rw [hv]
      show (if knF M k l2 W (M 119 (M 121 l + i).toNat).toNat = NV then none else _) = _
      rw [a1, Int.toNat_natCast]
    have ok := knF_r (k := k) (h0 := l2) (W := W) hR hP.2.1 hh a4 (fun b hb => (hst b hb).2)
    have ae : (a : Int).toNat = a := Int.toNat_natCast a
    rw [a1, ae]
    have st0 : ∀ M3 x, x = knF M k l2 W a → ¬ x = NV → M3 = zup M' 127 a x → ∃ n', n' < 100 - i ∧ ∃ (i' : Nat) (W' : Nat → Int), (l : Int) = (l : Int) ∧ l2 = l2 ∧ (i : Int) + 1 = (i' : Int) ∧ i' ≤ m ∧ n' = 100 - i' ∧ (∀ x, x ≠ 127 → M3 x = M1 x) ∧ lnV M k l2 l i' = some (W', x) ∧ (∀ b, b ∈ st i' → M3 127 b = W' b ∧ inB (W' b)) := by
      intro M3 x hx hn h3
      have xb : inB x := okb_in (by rw [hx]; exact ok) hn
      obtain ⟨r, r1, r2, r3⟩ := stk_s (W := W) a4 xb
      refine ⟨100 - (i + 1), by omega, i + 1, wup W a x, rfl, rfl, by omega, by omega, rfl, fun y hy => by rw [h3, zup_ne _ _ _ hy, fr y hy], by rw [lnn, ← hx, if_neg hn], fun b hb => ?_⟩
      rw [r1] at hb
      rw [h3, zup_r, if_pos rfl]
      unfold wup
      by_cases hba : b = a
      · rw [if_pos hba, if_pos hba]
        exact ⟨rfl, xb⟩
      · rw [if_neg hba, if_neg hba]
        have : b ∈ r := by
          rcases List.mem_cons.mp hb with q1 | q1
          · exact absurd q1 hba
          · exact q1
        exact hst b (r3 b this)
    have stN : ∀ x M3, x = knF M k l2 W a → x = NV → (∀ y, y ≠ 127 → M3 y = M1 y) → Q NV M3 := by
      intro x M3 hx hn f3
      have : lnV M k l2 l m = none := by
        have q1 : lnV M k l2 l (i + 1) = none := by rw [lnn, ← hx, if_pos hn]
        have q2 := lnV_none q1 (m - (i + 1))
        rw [show i + 1 + (m - (i + 1)) = m by omega] at q2
        exact q2
      rw [this] at h
      exact h M3 f3
    have ki : (0 ≤ (a : Int) ∧ (a : Int) < 128) ∧ (0 ≤ (a : Int) ∧ (a : Int) < 64) := by omega
    unfold knF at st0 stN ok
    rcases a4 with ⟨k1, k2, -⟩ | ⟨k1, k2, k3, k4, -⟩ | ⟨k1, b, r, f1, f2, f3, -⟩ | ⟨k1, b, c, r, f1, f2, f3, f4, f5, -⟩
    · rw [if_pos k1] at st0 stN ok
      refine ⟨ki.1, by rw [k1]; exact zRd rfl, fun q1 => absurd k1 q1, fun _ => ⟨ki.1, by unfold zR; omega, okb_L ok, fun q1 => ⟨ki.2, fun M3 h3 => st0 M3 _ rfl q1 h3⟩, fun q1 => stN _ M' rfl q1 fr⟩⟩
    · rw [if_neg (by omega), if_pos k1] at st0 stN ok
      have kz : zR (M 113 a) := by rw [k1]; exact zRd rfl
      refine ⟨ki.1, kz, fun _ => ⟨kz, fun q1 => absurd k1 q1, fun _ => ⟨ki.1, ki.1, ki.1, ?_⟩⟩, fun q1 => absurd (k1.symm.trans q1) (by decide)⟩
      refine r_whatV (M := M) (k := k) hR hP ⟨fun j hj => by rw [fr _ (by decide)]; exact hK.1 j hj, fun j hj q1 => by rw [fr 111 (by decide)]; rw [fr 110 (by decide)] at q1; exact hK.2 j hj q1⟩ (by rw [fr _ (by decide)]; exact e1) (by rw [fr _ (by decide)]; exact e0) (by unfold zR; omega) (by unfold zR; omega) k4 hh ?_
      exact ⟨okb_L ok, fun q1 => ⟨ki.2, fun M3 h3 => st0 M3 _ rfl q1 h3⟩, fun q1 => stN _ M' rfl q1 fr⟩
    · obtain ⟨w1, w2⟩ := hst b (by rw [f3]; exact List.mem_cons_self ..)
      have wl : zL (W b) := okb_L (Or.inr w2)
      rw [f1, Int.toNat_natCast] at st0 stN ok
      rw [f1, Int.toNat_natCast, w1]
      have kb : 0 ≤ (b : Int) ∧ (b : Int) < 64 := by omega
      rcases k1 with k1 | k1
      · rw [if_neg (by omega), if_neg (by omega), if_pos k1] at st0 stN ok
        have kz : zR (M 113 a) := by rw [k1]; exact zRd rfl
        refine ⟨ki.1, kz, fun _ => ⟨kz, fun _ => ⟨kz, fun q1 => absurd k1 q1, fun _ => ⟨ki.1, kb, okb_L ok, fun q1 => ⟨ki.2, fun M3 h3 => st0 M3 _ rfl q1 h3⟩, fun q1 => stN _ M' rfl q1 fr⟩⟩, fun q1 => absurd (k1.symm.trans q1) (by decide)⟩, fun q1 => absurd (k1.symm.trans q1) (by decide)⟩
      · rw [if_neg (by omega), if_neg (by omega), if_neg (by omega), if_pos k1] at st0 stN ok
        have kz : zR (M 113 a) := by rw [k1]; exact zRd rfl
        refine ⟨ki.1, kz, fun _ => ⟨kz, fun _ => ⟨kz, fun _ => ⟨kz, fun q1 => absurd k1 q1, fun _ => ⟨ki.1, kb, wl, fun q2 => ?_, fun q2 => ?_⟩⟩, fun q1 => absurd (k1.symm.trans q1) (by decide)⟩, fun q1 => absurd (k1.symm.trans q1) (by decide)⟩, fun q1 => absurd (k1.symm.trans q1) (by decide)⟩
        · rw [if_neg q2] at st0 stN ok
          exact r_truth (Or.inl rfl) ⟨okb_L ok, fun q1 => ⟨ki.2, fun M3 h3 => st0 M3 _ rfl q1 h3⟩, fun q1 => stN _ M' rfl q1 fr⟩
        · rw [if_pos q2] at st0 stN ok
          exact r_truth (Or.inr rfl) ⟨okb_L ok, fun q1 => ⟨ki.2, fun M3 h3 => st0 M3 _ rfl q1 h3⟩, fun q1 => stN _ M' rfl q1 fr⟩
    · obtain ⟨w1, w2⟩ := hst b (by rw [f5]; exact List.mem_cons_of_mem _ (List.mem_cons_self ..))
      obtain ⟨v1, v2⟩ := hst c (by rw [f5]; exact List.mem_cons_self ..)
      rw [f1, f3, Int.toNat_natCast, Int.toNat_natCast, if_neg (by omega), if_neg (by omega), if_neg (by omega), if_neg (by omega)] at st0 stN ok
      rw [f1, f3, Int.toNat_natCast, Int.toNat_natCast, w1, v1]
      have kz : zR (M 113 a) := by unfold zR; omega
      have kb : 0 ≤ (b : Int) ∧ (b : Int) < 64 := by omega
      have kc : 0 ≤ (c : Int) ∧ (c : Int) < 64 := by omega
      have n0 : ¬ M 113 a = 0 := by omega
      have n15 : ¬ M 113 a = 15 := by omega
      have n11 : ¬ M 113 a = 11 := by omega
      have n12 : ¬ M 113 a = 12 := by omega
      refine ⟨ki.1, kz, fun _ => ⟨kz, fun _ => ⟨kz, fun _ => ⟨kz, fun _ => ⟨ki.1, kb, ki.1, kc, ?_⟩, fun q1 => absurd q1 n12⟩, fun q1 => absurd q1 n11⟩, fun q1 => absurd q1 n15⟩, fun q1 => absurd q1 n0⟩
      exact r_made k1 w2 v2 ⟨okb_L ok, fun q1 => ⟨ki.2, fun M3 h3 => st0 M3 _ rfl q1 h3⟩, fun q1 => stN _ M' rfl q1 fr⟩
