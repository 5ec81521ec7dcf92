/-! a line's value: the class's value() is the reference's -/
theorem lineF_some {M : zM} {k h0 : Int} {l m : Nat} (hm : M 122 l = (m : Int)) : lineF M k h0 l = match lnV M k h0 l m with | none => NV | some s => s.2 := by
  unfold lineF
  rw [hm, Int.toNat_natCast]
  cases lnV M k h0 l m <;> rfl
theorem lineF_ok {M : zM} {k h0 : Int} {l : Nat} {st : Nat → List Nat} (hR : rdOk M) (hp : 0 ≤ M 102 4 ∧ M 102 4 ≤ 8) (hh : 0 ≤ h0 ∧ h0 ≤ 99) (hO : lnOk M l st) : okb (lineF M k h0 l) := by
  obtain ⟨o1, o2, o3, o4, o5⟩ := hO
  obtain ⟨m, hm⟩ : ∃ m : Nat, M 122 l = (m : Int) := ⟨(M 122 l).toNat, by omega⟩
  rw [lineF_some hm]
  have key : ∀ i, i ≤ m → lnV M k h0 l i = none ∨ ∃ W v, lnV M k h0 l i = some (W, v) ∧ okb v ∧ ∀ b, b ∈ st i → inB (W b) := by
    intro i hi
    induction i with
    | zero => exact Or.inr ⟨_, _, rfl, Or.inl rfl, fun b hb => by rw [o4] at hb; cases hb⟩
    | succ i ih =>
      rcases ih (by omega) with q | ⟨W, v, q, qv, qs⟩
      · exact Or.inl (lnV_none q 1)
      · obtain ⟨a, a1, a2, a3, a4⟩ := o5 i (by omega)
        have lnn : lnV M k h0 l (i + 1) = if knF M k h0 W a = NV then none else some (wup W a (knF M k h0 W a), knF M k h0 W a) := by
          show (match lnV M k h0 l i with | none => none | some s => _) = _
          rw [q]
          show (if knF M k h0 W (M 119 (M 121 l + i).toNat).toNat = NV then none else _) = _
          rw [a1, Int.toNat_natCast]
        have ok := knF_r (k := k) (h0 := h0) (W := W) hR hp hh a4 qs
        by_cases hn : knF M k h0 W a = NV
        · exact Or.inl (by rw [lnn, if_pos hn])
        · refine Or.inr ⟨_, _, by rw [lnn, if_neg hn], ok, fun b hb => ?_⟩
          obtain ⟨r, r1, r2, r3⟩ := stk_s (W := W) a4 (okb_in ok hn)
          rw [r1] at hb
          unfold wup
          by_cases hba : b = a
          · rw [if_pos hba]; exact okb_in ok hn
          · rw [if_neg hba]
            rcases List.mem_cons.mp hb with q1 | q1
            · exact absurd q1 hba
            · exact qs b (r3 b q1)
  rcases key m (Nat.le_refl _) with q | ⟨W, v, q, qv, -⟩
  · rw [q]; exact Or.inl rfl
  · rw [q]; exact qv
set_option maxHeartbeats 4000000 in
theorem c_value {E : zE} {M : zM} {Q : Int → zM → Prop} {k h0 : Int} {f l : Nat} {st : Nat → List Nat} (hf : zIs_6 (f : Int)) (hR : rRdg M) (hP : rPst M) (hT : ∀ j, 3 ≤ j → j ≤ 8 → zR (M 26 j)) (hh : 0 ≤ h0 ∧ h0 ≤ 99) (hk : zR k) (hl : l < 12) (hO : lnOk M l st) (hB : bkRel M f l)
    (h : ∀ M' : zM, vFr f M M' → Q (lineF M k h0 l) M') : zP E mX6_value [.inr (.inr (f : Int)), .inl (l : Int), .inr (.inr 20), .inl h0, .inl k] M Q := by
  obtain ⟨b1, b2, b3, b4⟩ := hB
  obtain ⟨o1, o2, o3, o4, o5⟩ := hO
  have ff : f = 6 ∨ f = 13 := by unfold zIs_6 at hf; omega
  have nT : 26 ≠ f := by omega
  have f6 : f ≠ f + 6 := by omega
  have T6 : 26 ≠ f + 6 := by omega
  have e0 : (f : Int).toNat = f := Int.toNat_natCast f
  have e5 : ((f : Int) + 5).toNat = f + 5 := by omega
  have e6 : ((f : Int) + 6).toNat = f + 6 := by omega
  have le : (l : Int).toNat = l := Int.toNat_natCast l
  obtain ⟨m, hm⟩ : ∃ m : Nat, M 122 l = (m : Int) := ⟨(M 122 l).toNat, by omega⟩
  obtain ⟨fi, hfi⟩ : ∃ fi : Nat, M 121 l = (fi : Int) := ⟨(M 121 l).toNat, by omega⟩
  rw [lineF_some hm] at h
  rw [hm, hfi] at b1
  rw [hfi] at b2 b3 b4 o3
  rw [hm] at b4 o3
  simp only [hfi, hm] at o5
  have start : ∀ M1 : zM, vFr f M M1 → M1 f 6 = 0 → ∃ n', (fun (n : Nat) (l1 l3 l4 l5 : Int) (M' : zM) => ∃ (i : Nat) (W : Nat → Int) (v : Int), l1 = (l : Int) ∧ l3 = h0 ∧ l4 = k ∧ l5 = ((fi + i : Nat) : Int) ∧ i ≤ m ∧ n = 100 - i ∧ vFr f M M' ∧ lnV M k h0 l i = some (W, v) ∧ M' f 6 = ((st i).length : Int) ∧ skV (M' (f + 6)) W (st i) ∧ (∀ b, b ∈ st i → inB (W b)) ∧ ((i = 0) ∨ ∃ a r, st i = a :: r ∧ W a = v)) n' (l : Int) h0 k (fi : Int) M1 := by
    intro M1 hv hs
    exact ⟨100, 0, fun _ => 0, NV, rfl, rfl, rfl, rfl, by omega, rfl, hv, rfl, by rw [hs, o4]; rfl, by rw [o4]; trivial, fun b hb => (by rw [o4] at hb; cases hb), Or.inl rfl⟩
  refine vcX6_value _ _ _ _ hf (fun (n : Nat) (l1 l3 l4 l5 : Int) (M' : zM) => ∃ (i : Nat) (W : Nat → Int) (v : Int), l1 = (l : Int) ∧ l3 = h0 ∧ l4 = k ∧ l5 = ((fi + i : Nat) : Int) ∧ i ≤ m ∧ n = 100 - i ∧ vFr f M M' ∧ lnV M k h0 l i = some (W, v) ∧ M' f 6 = ((st i).length : Int) ∧ skV (M' (f + 6)) W (st i) ∧ (∀ b, b ∈ st i → inB (W b)) ∧ ((i = 0) ∨ ∃ a r, st i = a :: r ∧ W a = v)) ?_ ?_
  · rw [e0, e5]
    intro M1 h1
    have v1 : vFr f M M1 := by
      rw [h1]
      exact ⟨fun x x1 _ _ => zup_ne _ _ _ x1, fun i hi => by rw [zup_r, if_pos rfl, if_neg hi], fun i i1 i2 => by rw [zup_ne _ _ _ nT]; exact hT i i1 i2⟩
    have s1 : M1 f 6 = 0 := by rw [h1, zup_r, if_pos rfl, if_pos rfl]
    refine ⟨by unfold zR; omega, fun q => ?_, fun q => ⟨by omega, ?_⟩⟩
    · have fi0 : (fi : Int) = 0 := b2 (by omega)
      have := start M1 v1 s1
      rw [fi0] at this
      exact this
    · have l1 : ((l : Int) - 1).toNat = l - 1 := by omega
      rw [l1, v1.1 (f + 5) (by omega) (by omega) (by omega), b3 (l - 1) (by omega)]
      exact start M1 v1 s1
  · rintro n l1 l3 l4 l5 M' ⟨i, W, v, rfl, rfl, rfl, rfl, hi, rfl, hv, hln, hsz, hsk, hin, hlast⟩
    rw [e0, e5, e6, le, hv.1 (f + 5) (by omega) (by omega) (by omega), b1, hsz]
    have len : (st i).length ≤ 64 := by
      by_cases q : i = 0
      · rw [q, o4]; decide
      · obtain ⟨a, a1, a2, a3, a4⟩ := o5 (i - 1) (by omega)
        rw [show i - 1 + 1 = i by omega] at a4
        rcases a4 with ⟨-, -, -, e⟩ | ⟨-, -, -, -, -, e⟩ | ⟨-, b, r, -, -, e3, -, e⟩ | ⟨-, b, c, r, -, -, -, -, e5, -, e⟩
        · rw [e, List.length_cons]; omega
        · rw [e, List.length_cons]; omega
        · rw [e, List.length_cons]; rw [e3, List.length_cons] at a3; omega
        · rw [e, List.length_cons]; rw [e5, List.length_cons, List.length_cons] at a3; omega
    refine ⟨by omega, ⟨by unfold zR; omega, by unfold zR; omega⟩, fun q => ⟨by unfold zR; omega, fun q1 => ?_, fun q1 => ?_⟩, fun q => ?_⟩
    · have im : i = m := by omega
      subst im
      rw [hln] at h
      rcases hlast with q2 | ⟨a, r, e, -⟩
      · subst q2
        have : v = NV := by
          have : some ((fun _ => 0 : Nat → Int), NV) = some (W, v) := hln
          injection this with t
          injection t with t1 t2
          exact t2.symm
        rw [this] at h
        exact h M' hv
      · rw [e, List.length_cons] at q1
        omega
    · have im : i = m := by omega
      subst im
      rw [hln] at h
      rcases hlast with q2 | ⟨a, r, e, ev⟩
      · rw [q2, o4] at q1
        exact absurd q1 (by decide)
      · rw [e] at hsk ⊢
        rw [e] at len
        obtain ⟨t1, -⟩ := hsk
        rw [List.length_cons] at len ⊢
        have ix : (((r.length + 1 : Nat) : Int) - 1).toNat = r.length := by omega
        rw [ix, t1, ev]
        exact ⟨by omega, h M' hv⟩
    · obtain ⟨a, a1, a2, a3, a4⟩ := o5 i (by omega)
      have lnn : lnV M l4 l3 l (i + 1) = if knF M l4 l3 W a = NV then none else some (wup W a (knF M l4 l3 W a), knF M l4 l3 W a) := by
        show (match lnV M l4 l3 l i with | none => none | some s => _) = _
        rw [hln]
        show (if knF M l4 l3 W (M 119 (M 121 l + i).toNat).toNat = NV then none else _) = _
        rw [hfi, a1, Int.toNat_natCast]
      have ok := knF_r (k := l4) (h0 := l3) (W := W) hR.2.1 hP.2.1 hh a4 hin
      have ob := b4 i (by omega)
      rw [a1, Int.toNat_natCast, show ((fi : Int) + (i : Int)).toNat = fi + i by omega] at ob
      refine c_knotValue (M0 := M) hf hR hP hv hh hk (by omega) ob a4 hsz (by omega) hsk hin ?_
      intro M3 x v3 s3 xl xc r es sz3 sk3
      have none_ : cut12 x = NV → Q NV M3 := fun q1 => by
        have : lnV M l4 l3 l m = none := by
          have q2 : lnV M l4 l3 l (i + 1) = none := by rw [lnn, ← xc, if_pos q1]
          have q3 := lnV_none q2 (m - (i + 1))
          rw [show i + 1 + (m - (i + 1)) = m by omega] at q3
          exact q3
        rw [this] at h
        exact h M3 v3
      refine ⟨xl, fun q1 => none_ (by unfold cut12; rw [if_pos (Or.inl q1)]), fun q1 => ⟨xl, fun q2 => ?_, fun q2 => none_ (by unfold cut12; rw [if_pos (Or.inr q2)])⟩⟩
      have xin : inB x := ⟨q2, q1⟩
      have xe : x = knF M l4 l3 W a := by rw [← xc, cut_in xin]
      have xn : ¬ knF M l4 l3 W a = NV := by
        rw [← xe]
        unfold inB at xin
        unfold NV
        omega
      obtain ⟨r', r1, r2, r3⟩ := stk_s (W := W) a4 xin
      have rr : r' = r := by
        rw [es] at r1
        injection r1 with _ q3
        exact q3.symm
      subst rr
      have rlen : r'.length < 64 := by
        rcases a4 with ⟨-, -, -, e⟩ | ⟨-, -, -, -, -, e⟩ | ⟨-, b, s, -, -, e3, -, e⟩ | ⟨-, b, c, s, -, -, -, -, e5, -, e⟩ <;> rw [es] at e <;> injection e with _ e
        · rw [e]; exact a3
        · rw [e]; exact a3
        · rw [e]; rw [e3, List.length_cons] at a3; omega
        · rw [e]; rw [e5, List.length_cons, List.length_cons] at a3; omega
      refine c_push hf sz3 rlen ?_
      obtain ⟨u1, u2, u3⟩ := v3
      refine ⟨100 - (i + 1), by omega, i + 1, wup W a x, x, rfl, rfl, rfl, by omega, by omega, rfl, ⟨fun y y1 y2 y3 => by rw [zup_ne _ _ _ y1, zup_ne _ _ _ y2]; exact u1 y y1 y2 y3, fun j hj => by rw [zup_r, if_pos rfl, if_neg hj, zup_ne _ _ _ f6]; exact u2 j hj, fun j j1 j2 => by rw [zup_ne _ _ _ nT, zup_ne _ _ _ T6]; exact u3 j j1 j2⟩, by rw [lnn, if_neg xn, ← xe], by rw [zup_r, if_pos rfl, if_pos rfl, es, List.length_cons], ?_, fun b hb => ?_, Or.inr ⟨a, r', es, by unfold wup; rw [if_pos rfl]⟩⟩
      · rw [es, zup_ne _ _ _ (by omega)]
        refine ⟨?_, skV_c r' (fun j hj => ?_) (fun b hb => ?_) sk3⟩
        · rw [zup_r, if_pos rfl, if_pos rfl]
          unfold wup
          rw [if_pos rfl]
        · rw [zup_r, if_pos rfl, if_neg (by omega), s3]
        · unfold wup
          rw [if_neg (fun q3 => by subst q3; exact r2 hb)]
      · rw [es] at hb
        unfold wup
        by_cases hba : b = a
        · rw [if_pos hba]; exact xin
        · rw [if_neg hba]
          rcases List.mem_cons.mp hb with q3 | q3
          · exact absurd q3 hba
          · exact hin b (r3 b q3)
