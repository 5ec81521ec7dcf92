/-! the class's network: rows of arcs, one way on at a time, pushing along a way -/
def lastA (tl : Nat → Nat) : Nat → Nat → Int
  | 0, _ => -1
  | m + 1, v => if tl m = v then (m : Int) else lastA tl m v
theorem lastA_s (tl : Nat → Nat) (m v : Nat) : (lastA tl m v = -1 ∧ ∀ e, e < m → tl e ≠ v) ∨ ∃ e : Nat, lastA tl m v = (e : Int) ∧ e < m ∧ tl e = v ∧ ∀ e', e < e' → e' < m → tl e' ≠ v := by
  induction m with
  | zero => exact Or.inl ⟨rfl, fun e he => by omega⟩
  | succ m ih =>
    have un : lastA tl (m + 1) v = if tl m = v then (m : Int) else lastA tl m v := rfl
    rw [un]
    by_cases h : tl m = v
    · rw [if_pos h]
      exact Or.inr ⟨m, rfl, by omega, h, fun e' h1 h2 => by omega⟩
    · rw [if_neg h]
      rcases ih with ⟨a1, a2⟩ | ⟨e, a1, a2, a3, a4⟩
      · refine Or.inl ⟨a1, fun e he => ?_⟩
        by_cases q : e = m
        · rw [q]; exact h
        · exact a2 e (by omega)
      · refine Or.inr ⟨e, a1, by omega, a3, fun e' h1 h2 => ?_⟩
        by_cases q : e' = m
        · rw [q]; exact h
        · exact a4 e' h1 (by omega)
theorem lastA_e {tl : Nat → Nat} {e v : Nat} (h : tl e = v) : lastA tl (e + 1) v = (e : Int) := if_pos h
def cNet (M : zM) (n : Nat) (fr to : Nat → Nat) (cap x : Nat → Int) : Prop := M 57 4 = ((2 * n : Nat) : Int) ∧ n ≤ 544 ∧ (∀ e, e < 2 * n → M 60 e = (rhd fr to e : Int) ∧ M 61 e = rsp cap x e ∧ M 59 e = lastA (rtl fr to) e (rtl fr to e)) ∧ (∀ v, v < 202 → M 58 v = lastA (rtl fr to) (2 * n) v) ∧ (∀ a, a < n → fr a < 202 ∧ to a < 202 ∧ (0 ≤ x a ∧ x a ≤ cap a) ∧ cap a ≤ 1000000)
def opp (e : Nat) : Nat := if e % 2 = 0 then e + 1 else e - 1
theorem opp_s (e : Nat) : opp e / 2 = e / 2 ∧ opp e ≠ e := by
  unfold opp
  split <;> omega
theorem rhd_opp (fr to : Nat → Nat) (e : Nat) : rhd fr to (opp e) = rtl fr to e := by
  unfold opp rhd rtl
  split
  · rw [if_neg (by omega), show (e + 1) / 2 = e / 2 by omega]
  · rw [if_pos (by omega), show (e - 1) / 2 = e / 2 by omega]
theorem zxor1 (e : Nat) (h : e < 1088) : zxor (e : Int) 1 = (opp e : Int) := by
  have key : ∀ f : Fin 1088, zxor ((f : Nat) : Int) 1 = (opp f : Int) := by decide +kernel
  exact key ⟨e, h⟩
theorem cN_tl {M : zM} {n : Nat} {fr to : Nat → Nat} {cap x : Nat → Int} (h : cNet M n fr to cap x) {e : Nat} (he : e < 2 * n) : rtl fr to e < 202 ∧ rhd fr to e < 202 ∧ (0 ≤ rsp cap x e ∧ rsp cap x e ≤ 1000000) := by
  obtain ⟨-, -, -, -, h5⟩ := h
  obtain ⟨a, ea | ea⟩ := par e
  · have := h5 a (by omega)
    rw [ea, rtl_0, rhd_0, rsp_0]
    omega
  · have := h5 a (by omega)
    rw [ea, rtl_1, rhd_1, rsp_1]
    omega
theorem cN_psh {M M' : zM} {n : Nat} {fr to : Nat → Nat} {cap x : Nat → Int} {e : Nat} {d : Int} (h : cNet M n fr to cap x) (he : e < 2 * n) (hd : 0 ≤ d) (h1 : d ≤ rsp cap x e) (f : ∀ y, y ≠ 61 → M' y = M y) (f1 : M' 61 = up1 (up1 (M 61) e (M 61 e - d)) (opp e) (M 61 (opp e) + d)) : cNet M' n fr to cap (psh x e d) := by
  obtain ⟨h0, h2, h3, h4, h5⟩ := h
  have os := opp_s e
  refine ⟨by rw [f _ (by decide)]; exact h0, h2, fun e' he' => ?_, fun v hv => by rw [f 58 (by decide)]; exact h4 v hv, fun a ha => ?_⟩
  · obtain ⟨b1, b2, b3⟩ := h3 e' he'
    rw [f 60 (by decide), f 59 (by decide)]
    refine ⟨b1, ?_, b3⟩
    rw [f1, rsp_psh]
    by_cases q1 : e' = e
    · rw [if_pos q1, q1, up1_n _ _ (fun r => os.2 r.symm), up1_s]
      rw [q1] at b2
      rw [b2]
    · rw [if_neg q1]
      by_cases q2 : e' / 2 = e / 2
      · have : e' = opp e := by omega
        rw [if_pos q2, this, up1_s]
        rw [this] at b2
        rw [b2]
      · rw [if_neg q2, up1_n _ _ (fun r => q2 (by rw [r]; exact os.1)), up1_n _ _ q1]
        exact b2
  · obtain ⟨b1, b2, b3, b4⟩ := h5 a ha
    refine ⟨b1, b2, ?_, b4⟩
    by_cases q : a = e / 2
    · obtain ⟨c, ec | ec⟩ := par e
      · rw [ec, rsp_0] at h1
        have : a = c := by omega
        subst this
        rw [ec, psh_0, up1_s]
        omega
      · rw [ec, rsp_1] at h1
        have : a = c := by omega
        subst this
        rw [ec, psh_1, up1_s]
        omega
    · rw [psh_n q]
      exact b3
theorem c_leadsDeeper {E : zE} {M : zM} {Q : Int → zM → Prop} {n v e : Nat} {fr to : Nat → Nat} {cap x : Nat → Int} (hN : cNet M n fr to cap x) (hd : ∀ v, v < 202 → zR (M 62 v)) (hv : v < 202) (he : e < 2 * n) (h : Q (if 0 < rsp cap x e ∧ M 62 v < M 62 (rhd fr to e) then 1 else 0) M) : zP E mX2_leadsDeeper [.inr (.inr 57), .inl (v : Int), .inl (e : Int)] M Q := by
  refine vcX2_leadsDeeper _ _ ?_
  obtain ⟨t1, t2, t3⟩ := cN_tl hN he
  obtain ⟨h0, h2, h3, h4, h5⟩ := hN
  obtain ⟨b1, b2, b3⟩ := h3 e he
  rw [Int.toNat_natCast, Int.toNat_natCast, b1, b2, Int.toNat_natCast]
  have eb : 0 ≤ (e : Int) ∧ (e : Int) < 1088 := by omega
  refine ⟨eb, by unfold zR; omega, fun q => ?_, fun q => ⟨eb, by omega, by omega, ⟨hd _ t2, hd _ hv⟩, fun q2 => ?_, fun q2 => ?_⟩⟩
  · rw [if_neg (fun r => by omega)] at h; exact h
  · rw [if_neg (fun r => by omega)] at h; exact h
  · rw [if_pos ⟨q, q2⟩] at h; exact h
theorem c_deeperArc {E : zE} {M : zM} {Q : Int → zM → Prop} {n v m : Nat} {fr to : Nat → Nat} {cap x : Nat → Int} (hN : cNet M n fr to cap x) (hd : ∀ v, v < 202 → zR (M 62 v)) (hv : v < 202) (hm : m ≤ 2 * n) (ht : M 63 v = lastA (rtl fr to) m v)
    (h : ∀ (r : Int) (m' : Nat), r = lastA (rtl fr to) m' v → m' ≤ m → (∀ e, m' ≤ e → e < m → rtl fr to e = v → ¬ (0 < rsp cap x e ∧ M 62 v < M 62 (rhd fr to e))) → (r = -1 ∨ ∃ e : Nat, r = (e : Int) ∧ e < m' ∧ e < 2 * n ∧ rtl fr to e = v ∧ 0 < rsp cap x e ∧ M 62 v < M 62 (rhd fr to e)) → Q r (zup M 63 v r)) : zP E mX2_deeperArc [.inr (.inr 57), .inl (v : Int)] M Q := by
  refine vcX2_deeperArc _ (fun c l1 l2 l3 M' => M' = M ∧ l1 = (v : Int) ∧ ∃ i m' : Nat, l3 = (i : Int) ∧ c = 2 * n - i ∧ l2 = lastA (rtl fr to) m' v ∧ i + m' ≤ 2 * n ∧ m' ≤ m ∧ (∀ e, m' ≤ e → e < m → rtl fr to e = v → ¬ (0 < rsp cap x e ∧ M 62 v < M 62 (rhd fr to e)))) ⟨by omega, 2 * n, rfl, rfl, 0, m, rfl, rfl, by rw [Int.toNat_natCast]; exact ht, by omega, by omega, fun e h1 h2 => by omega⟩ ?_
  rintro c l1 l2 l3 M' ⟨rfl, rfl, i, m', rfl, rfl, rfl, him, hmm, hno⟩
  have h0 := hN.1
  have hn := hN.2.1
  rw [h0, Int.toNat_natCast]
  have vb : 0 ≤ (v : Int) ∧ (v : Int) < 202 := by omega
  rcases lastA_s (rtl fr to) m' v with ⟨a1, a2⟩ | ⟨e, a1, a2, a3, a4⟩
  · have fin := h (-1) m' a1.symm hmm hno (Or.inl rfl)
    rw [a1]
    exact ⟨⟨by unfold zR; omega, by unfold zR; omega⟩, fun _ => ⟨vb, fun M1 h1 => by rw [h1]; exact fin⟩, fun _ => ⟨zRd rfl, fun _ => ⟨vb, fun M1 h1 => by rw [h1]; exact fin⟩, fun q => absurd rfl q⟩⟩
  · rw [a1]
    refine ⟨⟨by unfold zR; omega, by unfold zR; omega⟩, fun q => by omega, fun _ => ⟨by unfold zR; omega, fun q => by omega, fun _ => ?_⟩⟩
    refine c_leadsDeeper hN hd hv (by omega) ?_
    by_cases q : 0 < rsp cap x e ∧ M' 62 v < M' 62 (rhd fr to e)
    · rw [if_pos q]
      have fin := h e m' a1.symm hmm hno (Or.inr ⟨e, rfl, a2, by omega, a3, q.1, q.2⟩)
      exact ⟨zRd rfl, fun _ => ⟨vb, fun M1 h1 => by rw [h1]; exact fin⟩, fun q2 => absurd q2 (by decide)⟩
    · rw [if_neg q]
      refine ⟨zRd rfl, fun q2 => absurd rfl q2, fun _ => ⟨by omega, 2 * n - (i + 1), by omega, rfl, rfl, i + 1, e, by omega, rfl, ?_, by omega, by omega, fun e' h1 h2 h3 => ?_⟩⟩
      · rw [Int.toNat_natCast, (hN.2.2.1 e (by omega)).2.2, a3]
      · by_cases q3 : e' < m'
        · by_cases q4 : e' = e
          · rw [q4]; exact q
          · exact absurd h3 (a4 e' (by omega) q3)
        · exact hno e' (by omega) h2 h3
/-- a way from the source: its nodes and its arcs, ever deeper -/
def pthOk (n : Nat) (fr to : Nat → Nat) (cap x d P : Nat → Int) (pn pe : Nat → Nat) (len : Nat) : Prop := pn 0 = 200 ∧ (∀ i, i ≤ len → pn i < 202) ∧ ∀ i, i < len → P i = (pe i : Int) ∧ pe i < 2 * n ∧ rtl fr to (pe i) = pn i ∧ rhd fr to (pe i) = pn (i + 1) ∧ 0 < rsp cap x (pe i) ∧ d (pn i) < d (pn (i + 1))
theorem pth_lt {n : Nat} {fr to : Nat → Nat} {cap x d P : Nat → Int} {pn pe : Nat → Nat} {len : Nat} (h : pthOk n fr to cap x d P pn pe len) {i j : Nat} (hij : i < j) (hj : j ≤ len) : d (pn i) < d (pn j) := by
  induction j with
  | zero => omega
  | succ j ih =>
    have s := (h.2.2 j (by omega)).2.2.2.2.2
    by_cases q : i = j
    · rw [q]; exact s
    · have := ih (by omega) (by omega)
      omega
theorem pth_inj {n : Nat} {fr to : Nat → Nat} {cap x d P : Nat → Int} {pn pe : Nat → Nat} {len : Nat} (h : pthOk n fr to cap x d P pn pe len) {i j : Nat} (hi : i ≤ len) (hj : j ≤ len) (e : pn i = pn j) : i = j := by
  by_cases q1 : i < j
  · have := pth_lt h q1 hj
    rw [e] at this
    omega
  · by_cases q2 : j < i
    · have := pth_lt h q2 hi
      rw [e] at this
      omega
    · omega
theorem pth_dist {n : Nat} {fr to : Nat → Nat} {cap x d P : Nat → Int} {pn pe : Nat → Nat} {len : Nat} (h : pthOk n fr to cap x d P pn pe len) {i j : Nat} (hi : i < len) (hj : j < len) (ne : i ≠ j) : pe i / 2 ≠ pe j / 2 := by
  obtain ⟨-, -, a1, a2, -⟩ := h.2.2 i hi
  obtain ⟨-, -, b1, b2, -⟩ := h.2.2 j hj
  intro q
  by_cases q2 : pe i = pe j
  · rw [q2, b1] at a1
    exact ne (pth_inj h (by omega) (by omega) a1.symm)
  · have c1 := rtl_opp fr to q q2
    have c2 := rtl_opp fr to q.symm (fun r => q2 r.symm)
    rw [b1, a2] at c1
    rw [a1, b2] at c2
    have := pth_inj h (by omega) (by omega) c1
    have := pth_inj h (by omega) (by omega) c2
    omega
set_option maxHeartbeats 4000000 in
theorem c_pushAlong {E : zE} {M : zM} {Q : Int → zM → Prop} {n len : Nat} {fr to : Nat → Nat} {cap x d : Nat → Int} {pn pe : Nat → Nat} {val : Int} (hN : cNet M n fr to cap x) (hF : Flow 202 200 201 n fr to cap x val) (hP : pthOk n fr to cap x d (M 65) pn pe len) (hl : len ≤ 202) (hend : pn len = 201)
    (h : ∀ (M' : zM) (r : Int) (x' : Nat → Int), (0 < r ∧ r ≤ 1000000) → (∀ y, y ≠ 61 → M' y = M y) → cNet M' n fr to cap x' → Flow 202 200 201 n fr to cap x' (val + r) → Q r M') : zP E mX2_pushAlong [.inr (.inr 57), .inl (len : Int)] M Q := by
  have hn := hN.2.1
  refine vcX2_pushAlong _ (fun c l1 l2 l3 M' => M' = M ∧ l1 = (len : Int) ∧ ∃ j : Nat, l3 = (j : Int) ∧ j ≤ len ∧ c = 1000 + (len - j) ∧ (0 < l2 ∧ l2 ≤ 1000000) ∧ ∀ i, i < j → l2 ≤ rsp cap x (pe i))
    (fun c l1 l2 l3 M' => l1 = (len : Int) ∧ ∃ (j : Nat) (x' : Nat → Int), l3 = (j : Int) ∧ j ≤ len ∧ c = len - j ∧ (0 < l2 ∧ l2 ≤ 1000000) ∧ (∀ i, i < len → l2 ≤ rsp cap x (pe i)) ∧ (∀ y, y ≠ 61 → M' y = M y) ∧ cNet M' n fr to cap x' ∧ (∀ v, dv n fr to x' v = dv n fr to x v + (if v = 200 then l2 else 0) - (if v = pn j then l2 else 0)) ∧ (∀ i, j ≤ i → i < len → x' (pe i / 2) = x (pe i / 2)))
    ⟨1000 + (len - 0), rfl, rfl, 0, rfl, by omega, rfl, by omega, fun i hi => by omega⟩ ?_ ?_
  · rintro c l1 l2 l3 M' ⟨rfl, rfl, j, rfl, hj, rfl, hl2, hmin⟩
    refine ⟨⟨by unfold zR; omega, by unfold zR; omega⟩, fun q => ?_, fun q => ?_⟩
    · have jl : j = len := by omega
      subst jl
      refine ⟨j - 0, by omega, rfl, 0, x, rfl, by omega, rfl, hl2, hmin, fun _ _ => rfl, hN, fun v => ?_, fun _ _ _ => rfl⟩
      rw [hP.1]
      omega
    · obtain ⟨p1, p2, p3, p4, p5, p6⟩ := hP.2.2 j (by omega)
      obtain ⟨t1, t2, t3⟩ := cN_tl hN p2
      rw [Int.toNat_natCast, p1, Int.toNat_natCast, (hN.2.2.1 _ p2).2.1]
      refine ⟨by omega, by omega, ⟨by unfold zR; omega, by unfold zR; omega⟩, 1000 + (len - (j + 1)), by omega, rfl, rfl, j + 1, by omega, by omega, rfl, ?_, fun i hi => ?_⟩
      · split <;> omega
      · by_cases q2 : i = j
        · rw [q2]; split <;> omega
        · have := hmin i (by omega)
          split <;> omega
  · rintro c l1 l2 l3 M' ⟨rfl, j, x', rfl, hj, rfl, hl2, hmin, fr', hN', hdv, hun⟩
    refine ⟨⟨by unfold zR; omega, by unfold zR; omega⟩, fun q => ?_, fun q => ?_⟩
    · have jl : j = len := by omega
      rw [jl, hend] at hdv
      exact h M' l2 x' hl2 fr' hN' (flow_more hF (by decide) (fun a ha => (hN'.2.2.2.2 a ha).2.2.1) hdv)
    · obtain ⟨p1, p2, p3, p4, p5, p6⟩ := hP.2.2 j (by omega)
      have pe1 : M' 65 j = (pe j : Int) := by rw [fr' _ (by decide)]; exact p1
      rw [Int.toNat_natCast, pe1, Int.toNat_natCast]
      have eb : 0 ≤ (pe j : Int) ∧ (pe j : Int) < 1088 := by omega
      refine ⟨by omega, eb, eb, fun M1 h1 => ?_⟩
      have pe2 : M1 65 j = (pe j : Int) := by rw [h1, zup_ne _ _ _ (by decide)]; exact pe1
      have os := opp_s (pe j)
      have ob : opp (pe j) < 2 * n := by omega
      rw [pe2, zxor1 _ (by omega), Int.toNat_natCast]
      have ob2 : 0 ≤ (opp (pe j) : Int) ∧ (opp (pe j) : Int) < 1088 := by omega
      refine ⟨by omega, ob2, ob2, fun M2 h2 => ?_⟩
      have res : l2 ≤ rsp cap x' (pe j) := by
        have := hmin j (by omega)
        unfold rsp at this ⊢
        rw [hun j (by omega) (by omega)]
        exact this
      have g : ∀ y, y ≠ 61 → M2 y = M' y := fun y hy => by rw [h2, zup_ne _ _ _ hy, h1, zup_ne _ _ _ hy]
      refine ⟨len - (j + 1), by omega, rfl, j + 1, psh x' (pe j) l2, by omega, by omega, rfl, hl2, hmin, fun y hy => by rw [g y hy, fr' y hy], cN_psh hN' p2 (by omega) res g ?_, fun v => ?_, fun i hi1 hi2 => ?_⟩
      · rw [h2, zup_a, h1, zup_a, up1_n _ _ os.2]
      · rw [dv_psh p2, hdv, p3, p4, ite_sym (pn j) v, ite_sym (pn (j + 1)) v]
        omega
      · rw [psh_n (pth_dist hP hi2 (by omega) (by omega))]
        exact hun i (by omega) hi2
