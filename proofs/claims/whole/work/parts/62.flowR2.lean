/-! the reference pushes along the way that was found -/
def arcOf (C : Nat → Int) (v : Nat) : Nat := if C v ≤ 1000000 then 2 * (C v).toNat else 2 * (C v - 1000001).toNat + 1
theorem arcOf_e {C : Nat → Int} {v e : Nat} (h : C v = cdR e) (he : e < 2800) : arcOf C v = e := by
  unfold arcOf
  obtain ⟨a, ea | ea⟩ := par e
  · rw [ea, cdR_0] at h
    rw [h, if_pos (by omega)]
    omega
  · rw [ea, cdR_1] at h
    rw [h, if_neg (by omega)]
    omega
theorem tree_e {n k : Nat} {tl hd : Nat → Nat} {sp C q : Nat → Int} {ρ : Nat → Nat} (h : SPg 402 400 (2 * n) tl hd sp RC C q ρ k) (hn : n ≤ 1400) {v : Nat} (hv : v < 402) (h4 : v ≠ 400) (hC : C v ≠ -1) : arcOf C v < 2 * n ∧ hd (arcOf C v) = v ∧ 0 < sp (arcOf C v) ∧ C (tl (arcOf C v)) ≠ -1 ∧ tl (arcOf C v) < 402 ∧ ρ (tl (arcOf C v)) < ρ v ∧ C v = cdR (arcOf C v) := by
  obtain ⟨-, -, -, -, -, a6⟩ := h
  obtain ⟨e, e1, e2, e3, e4, e5, e6, e7⟩ := a6 v hv h4 hC
  have e7 : C v = cdR e := e7
  rw [arcOf_e e7 (by omega)]
  exact ⟨e1, e2, e3, e4, e5, e6, e7⟩
def orb (tl : Nat → Nat) (C : Nat → Int) : Nat → Nat
  | 0 => 401
  | i + 1 => tl (arcOf C (orb tl C i))
theorem orb_ok {n k : Nat} {tl hd : Nat → Nat} {sp C q : Nat → Int} {ρ : Nat → Nat} (h : SPg 402 400 (2 * n) tl hd sp RC C q ρ k) (hn : n ≤ 1400) (hs : C 401 ≠ -1) (i : Nat) (hi : ∀ j, j < i → orb tl C j ≠ 400) : orb tl C i < 402 ∧ C (orb tl C i) ≠ -1 := by
  induction i with
  | zero => exact ⟨by show 401 < 402; omega, hs⟩
  | succ i ih =>
    obtain ⟨a1, a2⟩ := ih (fun j hj => hi j (by omega))
    have := tree_e h hn a1 (hi i (by omega)) a2
    exact ⟨this.2.2.2.2.1, this.2.2.2.1⟩
theorem rNet_psh {M M' : zM} {n : Nat} {fr to : Nat → Nat} {cap x : Nat → Int} {e : Nat} {d : Int} (h : rNet M n fr to cap x) (he : e < 2 * n) (hd : 0 ≤ d) (h1 : d ≤ rsp cap x e) (f : ∀ y, y ≠ 158 → y ≠ 159 → M' y = M y) (f1 : ∀ a, M' 158 a = if a = e / 2 then cap a - psh x e d a else M 158 a) (f2 : ∀ a, M' 159 a = if a = e / 2 then psh x e d a else M 159 a) : rNet M' n fr to cap (psh x e d) := by
  obtain ⟨n1, n2, n3⟩ := h
  refine ⟨by rw [f _ (by decide) (by decide)]; exact n1, n2, fun a ha => ?_⟩
  obtain ⟨b1, b2, b3, b4, b5, b6, b7, b8⟩ := n3 a ha
  rw [f 156 (by decide) (by decide), f 157 (by decide) (by decide), f1, f2]
  by_cases q : a = e / 2
  · rw [if_pos q, if_pos q]
    refine ⟨b1, b2, rfl, rfl, b5, b6, ?_, b8⟩
    obtain ⟨c, ec | ec⟩ := par e
    · rw [ec, rsp_0] at h1
      have : a = c := by omega
      subst this
      rw [ec, psh_0, up1_s]
      omega
    · rw [ec, rsp_1] at h1
      have : a = c := by omega
      subst this
      rw [ec, psh_1, up1_s]
      omega
  · rw [if_neg q, if_neg q, psh_n q]
    exact ⟨b1, b2, b3, b4, b5, b6, b7, b8⟩
set_option maxHeartbeats 4000000 in
theorem r_pushes {E : zE} {M : zM} {Q : Int → zM → Prop} {n k : Nat} {fr to : Nat → Nat} {cap x : Nat → Int} {ρ : Nat → Nat} {val : Int} (hN : rNet M n fr to cap x) (hS : SPg 402 400 (2 * n) (rtl fr to) (rhd fr to) (rsp cap x) RC (M 160) (M 161) ρ k) (c4 : M 160 400 = 1000000) (hs : M 160 401 ≠ -1) (hF : Flow 402 400 401 n fr to cap x val)
    (h : ∀ (M' : zM) (d : Int) (x' : Nat → Int), (0 < d ∧ d ≤ 1000000) → (∀ y, y ≠ 158 → y ≠ 159 → M' y = M y) → rNet M' n fr to cap x' → Flow 402 400 401 n fr to cap x' (val + d) → Q d M') : zP E mX12_pushes [.inr (.inr 102)] M Q := by
  have hN0 := hN
  obtain ⟨n1, n2, n3⟩ := hN
  have rb : ∀ v, v < 402 → M 160 v ≠ -1 → ρ v < 402 := fun v hv hC => by
    have := (hS.2.2.2.1 v hv hC).1
    have := hS.1
    omega
  refine vcX12_pushes (fun m l1 l2 M' => M' = M ∧ ∃ i : Nat, l2 = (orb (rtl fr to) (M 160) i : Int) ∧ (∀ j, j < i → orb (rtl fr to) (M 160) j ≠ 400 ∧ l1 ≤ rsp cap x (arcOf (M 160) (orb (rtl fr to) (M 160) j))) ∧ (0 < l1 ∧ l1 ≤ 1000000) ∧ m = 1000 + ρ (orb (rtl fr to) (M 160) i))
    (fun m l1 l2 M' => ∃ (i K : Nat) (x' : Nat → Int), l2 = (orb (rtl fr to) (M 160) i : Int) ∧ i ≤ K ∧ orb (rtl fr to) (M 160) K = 400 ∧ (∀ j, j < K → orb (rtl fr to) (M 160) j ≠ 400 ∧ l1 ≤ rsp cap x (arcOf (M 160) (orb (rtl fr to) (M 160) j))) ∧ (0 < l1 ∧ l1 ≤ 1000000) ∧ m = ρ (orb (rtl fr to) (M 160) i) ∧ (∀ y, y ≠ 158 → y ≠ 159 → M' y = M y) ∧ rNet M' n fr to cap x' ∧
      (∀ v, dv n fr to x' v = dv n fr to x v + (if v = orb (rtl fr to) (M 160) i then l1 else 0) - (if v = 401 then l1 else 0)) ∧ (∀ v, v < 402 → v ≠ 400 → M 160 v ≠ -1 → ρ v ≤ ρ (orb (rtl fr to) (M 160) i) → x' (arcOf (M 160) v / 2) = x (arcOf (M 160) v / 2)))
    ⟨_, rfl, 0, rfl, fun j hj => by omega, by omega, rfl⟩ ?_ ?_
  · rintro m l1 l2 M' ⟨rfl, i, rfl, hp, hl, rfl⟩
    obtain ⟨o1, o2⟩ := orb_ok hS n2 hs i (fun j hj => (hp j hj).1)
    have r0 := rb _ o1 o2
    refine ⟨by unfold zR; omega, fun q => ?_, fun q => ⟨by omega, ?_⟩⟩
    · have q : orb (rtl fr to) (M' 160) i = 400 := by omega
      have r1 := rb 401 (by omega) hs
      refine ⟨ρ 401, by omega, 0, i, x, rfl, by omega, q, hp, hl, rfl, fun _ _ _ => rfl, hN0, fun v => ?_, fun _ _ _ _ _ => rfl⟩
      show dv n fr to x v = dv n fr to x v + (if v = 401 then l1 else 0) - (if v = 401 then l1 else 0)
      omega
    · obtain ⟨t1, t2, t3, t4, t5, t6, t7⟩ := tree_e hS n2 o1 (by omega) o2
      rw [Int.toNat_natCast]
      have un : orb (rtl fr to) (M' 160) (i + 1) = rtl fr to (arcOf (M' 160) (orb (rtl fr to) (M' 160) i)) := rfl
      have cz := RC_r hS c4 n2 _ o1
      have step : ∀ y : Int, l1 ≤ l1 → y ≤ l1 → 0 < y → y ≤ rsp cap x (arcOf (M' 160) (orb (rtl fr to) (M' 160) i)) → ∃ n', n' < 1000 + ρ (orb (rtl fr to) (M' 160) i) ∧ M' = M' ∧ ∃ i' : Nat, ((rtl fr to (arcOf (M' 160) (orb (rtl fr to) (M' 160) i)) : Nat) : Int) = (orb (rtl fr to) (M' 160) i' : Int) ∧ (∀ j, j < i' → orb (rtl fr to) (M' 160) j ≠ 400 ∧ y ≤ rsp cap x (arcOf (M' 160) (orb (rtl fr to) (M' 160) j))) ∧ (0 < y ∧ y ≤ 1000000) ∧ n' = 1000 + ρ (orb (rtl fr to) (M' 160) i') := by
        intro y _ y1 y2 y3
        refine ⟨1000 + ρ (orb (rtl fr to) (M' 160) (i + 1)), by rw [un]; omega, rfl, i + 1, rfl, fun j hj => ?_, by omega, rfl⟩
        by_cases q2 : j = i
        · rw [q2]
          exact ⟨by omega, y3⟩
        · have := hp j (by omega)
          exact ⟨this.1, by omega⟩
      generalize orb (rtl fr to) (M' 160) i = v at *
      generalize arcOf (M' 160) v = e at *
      refine ⟨by unfold zR; omega, fun q2 => ⟨by omega, ?_⟩, fun q2 => ⟨by omega, ?_⟩⟩
      · obtain ⟨a, ea | ea⟩ := par e
        · subst ea
          rw [cdR_0] at t7
          rw [t7, Int.toNat_natCast]
          obtain ⟨b1, b2, b3, b4, b5, b6, b7, b8⟩ := n3 a (by omega)
          rw [b3, b1]
          rw [rsp_0] at t3 step
          rw [rtl_0] at step
          exact ⟨by omega, ⟨by unfold zR; omega, by unfold zR; omega⟩, fun q3 => ⟨by omega, step l1 (by omega) (by omega) hl.1 q3⟩, fun q3 => ⟨by omega, step _ (by omega) (by omega) t3 (by omega)⟩⟩
        · rw [ea, cdR_1] at t7
          omega
      · obtain ⟨a, ea | ea⟩ := par e
        · rw [ea, cdR_0] at t7
          omega
        · subst ea
          rw [cdR_1] at t7
          have ix : M' 160 v - 1000000 - 1 = (a : Int) := by omega
          rw [ix, Int.toNat_natCast]
          obtain ⟨b1, b2, b3, b4, b5, b6, b7, b8⟩ := n3 a (by omega)
          rw [b4, b2]
          rw [rsp_1] at t3 step
          rw [rtl_1] at step
          exact ⟨by omega, ⟨by unfold zR; omega, by unfold zR; omega⟩, fun q3 => ⟨by omega, step l1 (by omega) (by omega) hl.1 q3⟩, fun q3 => ⟨by omega, step _ (by omega) (by omega) t3 (by omega)⟩⟩
  · rintro m l1 l2 M' ⟨i, K, x', rfl, hi, hK, hp, hl, rfl, fr', hN', hdv, hun⟩
    obtain ⟨o1, o2⟩ := orb_ok hS n2 hs i (fun j hj => (hp j (by omega)).1)
    refine ⟨by unfold zR; omega, fun q => ?_, fun q => ⟨by omega, ?_⟩⟩
    · have q : orb (rtl fr to) (M 160) i = 400 := by omega
      rw [q] at hdv
      exact h M' l1 x' hl fr' hN' (flow_more hF (by decide) (fun a ha => (hN'.2.2 a ha).2.2.2.2.2.2.1) hdv)
    · have iK : i < K := by
        by_cases q2 : i = K
        · rw [q2, hK] at q
          exact absurd rfl q
        · omega
      have ni : orb (rtl fr to) (M 160) i ≠ 400 := by omega
      obtain ⟨t1, t2, t3, t4, t5, t6, t7⟩ := tree_e hS n2 o1 ni o2
      have un : orb (rtl fr to) (M 160) (i + 1) = rtl fr to (arcOf (M 160) (orb (rtl fr to) (M 160) i)) := rfl
      have res := (hp i iK).2
      have same := hun _ o1 ni o2 (Nat.le_refl _)
      have cz := RC_r hS c4 n2 _ o1
      have ce : M' 160 = M 160 := fr' _ (by decide) (by decide)
      have res' : l1 ≤ rsp cap x' (arcOf (M 160) (orb (rtl fr to) (M 160) i)) := by
        unfold rsp at res ⊢
        rw [same]
        exact res
      have step : ∀ M2 : zM, (∀ y, y ≠ 158 → y ≠ 159 → M2 y = M' y) → rNet M2 n fr to cap (psh x' (arcOf (M 160) (orb (rtl fr to) (M 160) i)) l1) → ∃ n', n' < ρ (orb (rtl fr to) (M 160) i) ∧ ∃ (i' K' : Nat) (x'' : Nat → Int), ((rtl fr to (arcOf (M 160) (orb (rtl fr to) (M 160) i)) : Nat) : Int) = (orb (rtl fr to) (M 160) i' : Int) ∧ i' ≤ K' ∧ orb (rtl fr to) (M 160) K' = 400 ∧ (∀ j, j < K' → orb (rtl fr to) (M 160) j ≠ 400 ∧ l1 ≤ rsp cap x (arcOf (M 160) (orb (rtl fr to) (M 160) j))) ∧ (0 < l1 ∧ l1 ≤ 1000000) ∧ n' = ρ (orb (rtl fr to) (M 160) i') ∧ (∀ y, y ≠ 158 → y ≠ 159 → M2 y = M y) ∧ rNet M2 n fr to cap x'' ∧
          (∀ v, dv n fr to x'' v = dv n fr to x v + (if v = orb (rtl fr to) (M 160) i' then l1 else 0) - (if v = 401 then l1 else 0)) ∧ (∀ v, v < 402 → v ≠ 400 → M 160 v ≠ -1 → ρ v ≤ ρ (orb (rtl fr to) (M 160) i') → x'' (arcOf (M 160) v / 2) = x (arcOf (M 160) v / 2)) := by
        intro M2 g1 g2
        refine ⟨ρ (orb (rtl fr to) (M 160) (i + 1)), by rw [un]; exact t6, i + 1, K, _, rfl, by omega, hK, hp, hl, rfl, fun y y1 y2 => by rw [g1 y y1 y2, fr' y y1 y2], g2, fun v => ?_, fun v v1 v2 v3 v4 => ?_⟩
        · rw [dv_psh t1, hdv, t2, un, ite_sym (rtl fr to (arcOf (M 160) (orb (rtl fr to) (M 160) i))) v, ite_sym (orb (rtl fr to) (M 160) i) v]
          omega
        · rw [un] at v4
          obtain ⟨s1, s2, s3, s4, s5, s6, s7⟩ := tree_e hS n2 v1 v2 v3
          rw [psh_n]
          · exact hun v v1 v2 v3 (by omega)
          · intro p
            by_cases p2 : arcOf (M 160) v = arcOf (M 160) (orb (rtl fr to) (M 160) i)
            · rw [p2, t2] at s2
              rw [← s2] at v4
              omega
            · have := rtl_opp fr to p.symm (fun r => p2 r.symm)
              rw [this, t2] at s6
              omega
      rw [ce, Int.toNat_natCast]
      generalize orb (rtl fr to) (M 160) i = v at *
      generalize arcOf (M 160) v = e at *
      have hl0 : 0 ≤ l1 := by omega
      obtain ⟨n1', n2', n3'⟩ := hN'
      refine ⟨by unfold zR; omega, fun q2 => ⟨by omega, ?_⟩, fun q2 => ⟨by omega, ?_⟩⟩
      · obtain ⟨a, ea | ea⟩ := par e
        · subst ea
          rw [cdR_0] at t7
          rw [t7, Int.toNat_natCast]
          have ab : 0 ≤ (a : Int) ∧ (a : Int) < 1400 := by omega
          refine ⟨ab, ab, fun M1 h1 => ⟨ab, ab, fun M2 h2 => ⟨ab, ?_⟩⟩⟩
          obtain ⟨b1, b2, b3, b4, b5, b6, b7, b8⟩ := n3' a (by omega)
          have g1 : ∀ y, y ≠ 158 → y ≠ 159 → M2 y = M' y := fun y y1 y2 => by rw [h2, zup_ne _ _ _ y2, h1, zup_ne _ _ _ y1]
          have e1 : M2 156 a = (fr a : Int) := by rw [g1 _ (by decide) (by decide)]; exact b1
          rw [e1]
          rw [rtl_0] at step
          refine step M2 g1 (rNet_psh ⟨n1', n2', n3'⟩ t1 hl0 res' g1 (fun c => ?_) (fun c => ?_))
          · rw [psh_0, h2, zup_ne _ _ _ (by decide), h1, zup_a, b3, show 2 * a / 2 = a by omega]
            by_cases p : c = a
            · rw [if_pos p, p, up1_s, up1_s]; omega
            · rw [if_neg p, up1_n _ _ p]
          · rw [psh_0, h2, zup_a, h1, zup_ne _ _ _ (by decide), b4, show 2 * a / 2 = a by omega]
            by_cases p : c = a
            · rw [if_pos p, p, up1_s, up1_s]
            · rw [if_neg p, up1_n _ _ p]
        · rw [ea, cdR_1] at t7
          omega
      · obtain ⟨a, ea | ea⟩ := par e
        · rw [ea, cdR_0] at t7
          omega
        · subst ea
          rw [cdR_1] at t7
          have ix : M 160 v - 1000000 - 1 = (a : Int) := by omega
          rw [ix, Int.toNat_natCast]
          have ab : 0 ≤ (a : Int) ∧ (a : Int) < 1400 := by omega
          refine ⟨ab, ab, fun M1 h1 => ⟨ab, ab, fun M2 h2 => ⟨ab, ?_⟩⟩⟩
          obtain ⟨b1, b2, b3, b4, b5, b6, b7, b8⟩ := n3' a (by omega)
          have g1 : ∀ y, y ≠ 158 → y ≠ 159 → M2 y = M' y := fun y y1 y2 => by rw [h2, zup_ne _ _ _ y2, h1, zup_ne _ _ _ y1]
          have e1 : M2 157 a = (to a : Int) := by rw [g1 _ (by decide) (by decide)]; exact b2
          rw [e1]
          rw [rtl_1] at step
          refine step M2 g1 (rNet_psh ⟨n1', n2', n3'⟩ t1 hl0 res' g1 (fun c => ?_) (fun c => ?_))
          · rw [psh_1, h2, zup_ne _ _ _ (by decide), h1, zup_a, b3, show (2 * a + 1) / 2 = a by omega]
            by_cases p : c = a
            · rw [if_pos p, p, up1_s, up1_s]; omega
            · rw [if_neg p, up1_n _ _ p]
          · rw [psh_1, h2, zup_a, h1, zup_ne _ _ _ (by decide), b4, show (2 * a + 1) / 2 = a by omega]
            by_cases p : c = a
            · rw [if_pos p, p, up1_s, up1_s]
            · rw [if_neg p, up1_n _ _ p]
