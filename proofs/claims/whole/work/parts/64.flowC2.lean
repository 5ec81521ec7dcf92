/-! the class's round of pushing -/
theorem cnt_dn {N : Nat} {C : Nat → Int} {u : Nat} (hu : u < N) (h : C u ≠ -1) : cnt N (up1 C u (-1)) + 1 = cnt N C := by
  have e : up1 (up1 C u (-1)) u (C u) = C := by
    funext j
    by_cases q : j = u
    · rw [q, up1_s]
    · rw [up1_n _ _ q, up1_n _ _ q]
  have := cnt_up (C := up1 C u (-1)) (c := C u) hu (up1_s _ _ _) h
  rw [e] at this
  exact this.symm
/-- the depths are distances in what is left, and the sink has one -/
def prog (n : Nat) (fr to : Nat → Nat) (cap x D : Nat → Int) : Prop := D 200 = 0 ∧ D 201 ≠ -1 ∧ (∀ v, v < 202 → D v ≤ 201) ∧ (∀ v, v < 202 → v ≠ 200 → D v ≠ -1 → ∃ e, e < 2 * n ∧ rhd fr to e = v ∧ 0 < rsp cap x e ∧ rtl fr to e < 202 ∧ 0 ≤ D (rtl fr to e) ∧ D v = D (rtl fr to e) + 1)
def PG (n : Nat) (fr to : Nat → Nat) (cap x D d : Nat → Int) (mv : Nat → Nat) (len mvn : Nat) : Prop := (∀ v, v < 202 → d v = D v ∨ d v = -1) ∧ d 201 = D 201 ∧ d 200 = D 200 ∧ (mvn : Int) + 2 * cnt 202 d = 2 * cnt 202 D + len ∧ (∀ v, v < 202 → ∀ e, mv v ≤ e → e < 2 * n → rtl fr to e = v → 0 < rsp cap x e → d (rhd fr to e) ≤ D v) ∧ (∀ v, v < 202 → d v ≠ D v → lastA (rtl fr to) (mv v) v = -1)
def prI (M : zM) (n : Nat) (fr to : Nat → Nat) (cap x : Nat → Int) (val l1 : Int) (node len mvn : Nat) (M' : zM) (x' : Nat → Int) (mv pn pe : Nat → Nat) : Prop :=
  (∀ y, y ≠ 61 → y ≠ 62 → y ≠ 63 → y ≠ 65 → M' y = M y) ∧ cNet M' n fr to cap x' ∧ Flow 202 200 201 n fr to cap x' (val + l1) ∧ 0 ≤ l1 ∧ (∀ v, v < 202 → -1 ≤ M' 62 v ∧ M' 62 v ≤ 1000) ∧ (∀ v, v < 202 → mv v ≤ 2 * n ∧ M' 63 v = lastA (rtl fr to) (mv v) v) ∧ (pn len = node ∧ len ≤ 202 ∧ pthOk n fr to cap x' (M' 62) (M' 65) pn pe len) ∧
  (1 ≤ l1 ∨ (x' = x ∧ l1 = 0 ∧ (prog n fr to cap x (M 62) → PG n fr to cap x (M 62) (M' 62) mv len mvn)))
theorem prI_alive {M : zM} {n : Nat} {fr to : Nat → Nat} {cap x : Nat → Int} {val l1 : Int} {node len mvn : Nat} {M' : zM} {x' : Nat → Int} {mv pn pe : Nat → Nat} (h : prI M n fr to cap x val l1 node len mvn M' x' mv pn pe) (hl : 0 < len) : M' 62 node ≠ -1 ∧ node ≠ 200 := by
  obtain ⟨-, -, -, -, h5, -, ⟨h7, h8, h9⟩, -⟩ := h
  have := pth_lt h9 hl (Nat.le_refl _)
  rw [h7, h9.1] at this
  have b := h5 200 (by omega)
  refine ⟨by omega, fun q => ?_⟩
  rw [q] at this
  omega
theorem prI_len {M : zM} {n : Nat} {fr to : Nat → Nat} {cap x : Nat → Int} {len : Nat} {d : Nat → Int} {mvn : Nat} {P : Nat → Int} {mv pn pe : Nat → Nat} (hp : prog n fr to cap x (M 62)) (hg : PG n fr to cap x (M 62) d mv len mvn) (h9 : pthOk n fr to cap x d P pn pe len) : len < 202 := by
  have key : ∀ i, i ≤ len → (i : Int) ≤ d (pn i) := by
    intro i hi
    induction i with
    | zero => rw [h9.1, hg.2.2.1, hp.1]; omega
    | succ i ih =>
      have := ih (by omega)
      have := (h9.2.2 i (by omega)).2.2.2.2.2
      omega
  have k := key len (Nat.le_refl _)
  have b := h9.2.1 len (Nat.le_refl _)
  have := hp.2.2.1 _ b
  rcases hg.1 _ b with q | q <;> omega
theorem pth_c {n : Nat} {fr to : Nat → Nat} {cap x d d' P P' : Nat → Int} {pn pe : Nat → Nat} {len : Nat} (h : pthOk n fr to cap x d P pn pe len) (h1 : ∀ i, i < len → P' i = P i) (h2 : ∀ i, i ≤ len → d' (pn i) = d (pn i)) : pthOk n fr to cap x d' P' pn pe len := by
  obtain ⟨a1, a2, a3⟩ := h
  refine ⟨a1, a2, fun i hi => ?_⟩
  rw [h1 i hi, h2 i (by omega), h2 (i + 1) (by omega)]
  exact a3 i hi
theorem prI_back {M : zM} {n : Nat} {fr to : Nat → Nat} {cap x : Nat → Int} {val l1 r : Int} {node len mvn m' : Nat} {M' M4 : zM} {x' : Nat → Int} {mv pn pe : Nat → Nat} (h : prI M n fr to cap x val l1 node len mvn M' x' mv pn pe) (hl : 0 < len) (hn : node ≠ 201)
    (f : ∀ y, y ≠ 62 → y ≠ 63 → M4 y = M' y) (f1 : M4 63 = up1 (M' 63) node r) (f2 : M4 62 = up1 (M' 62) node (-1)) (hr : r = lastA (rtl fr to) m' node) (hm : m' ≤ mv node) (hc : ∀ e, m' ≤ e → e < mv node → rtl fr to e = node → ¬ (0 < rsp cap x' e ∧ M' 62 node < M' 62 (rhd fr to e))) (h3 : r = -1 ∨ len = 202) : prI M n fr to cap x val l1 (pn (len - 1)) (len - 1) (mvn + 1) M4 x' (up1 mv node m') pn pe := by
  obtain ⟨al, n2⟩ := prI_alive h hl
  obtain ⟨a1, a2, a3, a4, a5, a6, ⟨a7, a8, a9⟩, a10⟩ := h
  have nb : node < 202 := by rw [← a7]; exact a9.2.1 _ (Nat.le_refl _)
  have pne : ∀ i, i ≤ len - 1 → pn i ≠ node := fun i hi q => by
    rw [← a7] at q
    have := pth_inj a9 (by omega) (Nat.le_refl _) q
    omega
  refine ⟨fun y y1 y2 y3 y4 => by rw [f y y2 y3]; exact a1 y y1 y2 y3 y4, ?_, a3, a4, fun v hv => ?_, fun v hv => ?_, ⟨rfl, by omega, ?_⟩, ?_⟩
  · obtain ⟨b1, b2, b3, b4, b5⟩ := a2
    unfold cNet
    rw [f 57 (by decide) (by decide), f 60 (by decide) (by decide), f 61 (by decide) (by decide), f 59 (by decide) (by decide), f 58 (by decide) (by decide)]
    exact ⟨b1, b2, b3, b4, b5⟩
  · rw [f2]
    by_cases q : v = node
    · rw [q, up1_s]; omega
    · rw [up1_n _ _ q]; exact a5 v hv
  · rw [f1]
    by_cases q : v = node
    · rw [q, up1_s, up1_s]
      have := (a6 node nb).1
      exact ⟨by omega, hr⟩
    · rw [up1_n _ _ q, up1_n _ _ q]; exact a6 v hv
  · rw [f 65 (by decide) (by decide), f2]
    have a9' : pthOk n fr to cap x' (M' 62) (M' 65) pn pe (len - 1) := ⟨a9.1, fun i hi => a9.2.1 i (by omega), fun i hi => a9.2.2 i (by omega)⟩
    exact pth_c a9' (fun _ _ => rfl) (fun i hi => up1_n _ _ (pne i hi))
  · rcases a10 with q | ⟨q1, q2, q3⟩
    · exact Or.inl q
    · refine Or.inr ⟨q1, q2, fun hp => ?_⟩
      subst q1
      have g := q3 hp
      have ll := prI_len hp g a9
      have r1 : r = -1 := by omega
      obtain ⟨g1, g2, g3, g4, g5, g6⟩ := g
      have le : ∀ v, v < 202 → M4 62 v ≤ M' 62 v := fun v hv => by
        rw [f2]
        by_cases q : v = node
        · rw [q, up1_s]; exact (a5 node nb).1
        · rw [up1_n _ _ q]; exact Int.le_refl _
      have dn : M' 62 node = M 62 node := (g1 node nb).resolve_right al
      refine ⟨fun v hv => ?_, ?_, ?_, ?_, fun v hv e e1 e2 e3 e4 => ?_, fun v hv hd => ?_⟩
      · rw [f2]
        by_cases q : v = node
        · rw [q, up1_s]; exact Or.inr rfl
        · rw [up1_n _ _ q]; exact g1 v hv
      · rw [f2, up1_n _ _ (fun q => hn q.symm)]; exact g2
      · rw [f2, up1_n _ _ (fun q => n2 q.symm)]; exact g3
      · have := cnt_dn nb al
        rw [f2]
        omega
      · have hb := (cN_tl a2 e2).2.1
        have l := le _ hb
        by_cases q : v = node
        · subst q
          rw [up1_s] at e1
          by_cases q2 : e < mv v
          · have := hc e e1 q2 e3
            omega
          · have := g5 v hv e (by omega) e2 e3 e4
            omega
        · rw [up1_n _ _ q] at e1
          have := g5 v hv e e1 e2 e3 e4
          omega
      · by_cases q : v = node
        · rw [q, up1_s, ← hr]; exact r1
        · rw [up1_n _ _ q]
          rw [f2, up1_n _ _ q] at hd
          exact g6 v hv hd
theorem prI_on {M : zM} {n : Nat} {fr to : Nat → Nat} {cap x : Nat → Int} {val l1 : Int} {node len mvn m' e : Nat} {M' M6 : zM} {x' : Nat → Int} {mv pn pe : Nat → Nat} (h : prI M n fr to cap x val l1 node len mvn M' x' mv pn pe) (hl : len < 202)
    (f : ∀ y, y ≠ 65 → y ≠ 63 → M6 y = M' y) (f1 : M6 63 = up1 (M' 63) node (e : Int)) (f2 : M6 65 = up1 (M' 65) len (e : Int)) (hr : (e : Int) = lastA (rtl fr to) m' node) (hm : m' ≤ mv node) (hc : ∀ e, m' ≤ e → e < mv node → rtl fr to e = node → ¬ (0 < rsp cap x' e ∧ M' 62 node < M' 62 (rhd fr to e))) (e1 : e < 2 * n) (e2 : rtl fr to e = node) (e3 : 0 < rsp cap x' e) (e4 : M' 62 node < M' 62 (rhd fr to e)) : prI M n fr to cap x val l1 (rhd fr to e) (len + 1) (mvn + 1) M6 x' (up1 mv node m') (up1 pn (len + 1) (rhd fr to e)) (up1 pe len e) := by
  obtain ⟨a1, a2, a3, a4, a5, a6, ⟨a7, a8, a9⟩, a10⟩ := h
  have nb : node < 202 := by rw [← a7]; exact a9.2.1 _ (Nat.le_refl _)
  have hb := (cN_tl a2 e1).2.1
  have dd : M6 62 = M' 62 := f _ (by decide) (by decide)
  have pth : pthOk n fr to cap x' (M' 62) (M6 65) (up1 pn (len + 1) (rhd fr to e)) (up1 pe len e) (len + 1) := by
    refine ⟨by rw [up1_n _ _ (by omega)]; exact a9.1, fun i hi => ?_, fun i hi => ?_⟩
    · by_cases q : i = len + 1
      · rw [q, up1_s]; exact hb
      · rw [up1_n _ _ q]; exact a9.2.1 i (by omega)
    · rw [f2]
      by_cases q : i = len
      · rw [q, up1_s, up1_s, up1_s, up1_n _ _ (by omega), a7]
        exact ⟨rfl, e1, e2, rfl, e3, e4⟩
      · rw [up1_n _ _ q, up1_n _ _ q, up1_n _ _ (by omega), up1_n _ _ (by omega)]
        exact a9.2.2 i (by omega)
  refine ⟨fun y y1 y2 y3 y4 => by rw [f y y4 y3]; exact a1 y y1 y2 y3 y4, ?_, a3, a4, fun v hv => by rw [dd]; exact a5 v hv, fun v hv => ?_, ⟨up1_s _ _ _, by omega, by rw [dd]; exact pth⟩, ?_⟩
  · obtain ⟨b1, b2, b3, b4, b5⟩ := a2
    unfold cNet
    rw [f 57 (by decide) (by decide), f 60 (by decide) (by decide), f 61 (by decide) (by decide), f 59 (by decide) (by decide), f 58 (by decide) (by decide)]
    exact ⟨b1, b2, b3, b4, b5⟩
  · rw [f1]
    by_cases q : v = node
    · rw [q, up1_s, up1_s]
      have := (a6 node nb).1
      exact ⟨by omega, hr⟩
    · rw [up1_n _ _ q, up1_n _ _ q]; exact a6 v hv
  · rcases a10 with q | ⟨q1, q2, q3⟩
    · exact Or.inl q
    · refine Or.inr ⟨q1, q2, fun hp => ?_⟩
      subst q1
      obtain ⟨g1, g2, g3, g4, g5, g6⟩ := q3 hp
      have al : M' 62 node ≠ -1 := by
        by_cases l0 : len = 0
        · rw [l0, a9.1] at a7
          rw [← a7, g3, hp.1]
          decide
        · have := pth_lt a9 (show 0 < len by omega) (Nat.le_refl _)
          rw [a7, a9.1] at this
          have b := a5 200 (by omega)
          omega
      have dn : M' 62 node = M 62 node := (g1 node nb).resolve_right al
      rw [dd]
      refine ⟨g1, g2, g3, by omega, fun v hv e' i1 i2 i3 i4 => ?_, fun v hv hd => ?_⟩
      · by_cases q : v = node
        · subst q
          rw [up1_s] at i1
          by_cases p : e' < mv v
          · have := hc e' i1 p i3
            omega
          · exact g5 v hv e' (by omega) i2 i3 i4
        · rw [up1_n _ _ q] at i1
          exact g5 v hv e' i1 i2 i3 i4
      · by_cases q : v = node
        · subst q
          exact absurd dn hd
        · rw [up1_n _ _ q]
          exact g6 v hv hd
/-- it can't end without a push where the sink has a depth -/
theorem prI_stop {M : zM} {n : Nat} {fr to : Nat → Nat} {cap x : Nat → Int} {val l1 : Int} {node len mvn m' : Nat} {M' : zM} {x' : Nat → Int} {mv pn pe : Nat → Nat} (h : prI M n fr to cap x val l1 node len mvn M' x' mv pn pe) (hl : len = 0) (hr : -1 = lastA (rtl fr to) m' node) (hm : m' ≤ mv node) (hc : ∀ e, m' ≤ e → e < mv node → rtl fr to e = node → ¬ (0 < rsp cap x' e ∧ M' 62 node < M' 62 (rhd fr to e))) (hp : prog n fr to cap x (M 62)) : 1 ≤ l1 := by
  obtain ⟨a1, a2, a3, a4, a5, a6, ⟨a7, a8, a9⟩, a10⟩ := h
  rcases a10 with q | ⟨q1, q2, q3⟩
  · exact q
  · exfalso
    subst q1
    obtain ⟨g1, g2, g3, g4, g5, g6⟩ := q3 hp
    have n200 : node = 200 := by rw [← a7, hl]; exact a9.1
    subst n200
    have none_ : ∀ e, e < m' → rtl fr to e ≠ 200 := by
      rcases lastA_s (rtl fr to) m' 200 with ⟨-, b2⟩ | ⟨e, b1, -⟩
      · exact b2
      · omega
    have out0 : ∀ e, e < 2 * n → rtl fr to e = 200 → 0 < rsp cap x' e → M' 62 (rhd fr to e) ≤ M 62 200 := by
      intro e e1 e2 e3
      have : m' ≤ e := Nat.le_of_not_lt (fun q => none_ e q e2)
      by_cases p : e < mv 200
      · have := hc e this p e2
        omega
      · exact g5 200 (by omega) e (by omega) e1 e2 e3
    have key : ∀ k : Nat, ∀ v, v < 202 → v ≠ 200 → M 62 v ≠ -1 → M 62 v < (k : Int) → M' 62 v = -1 := by
      intro k
      induction k with
      | zero =>
        intro v v1 v2 v3 v4
        obtain ⟨e, e1, e2, e3, e4, e5, e6⟩ := hp.2.2.2 v v1 v2 v3
        omega
      | succ k ih =>
        intro v v1 v2 v3 v4
        obtain ⟨e, e1, e2, e3, e4, e5, e6⟩ := hp.2.2.2 v v1 v2 v3
        have lt : M' 62 v ≤ M 62 (rtl fr to e) := by
          by_cases p : rtl fr to e = 200
          · have := out0 e e1 p e3
            rw [e2] at this
            rw [p]
            exact this
          · have dead := ih (rtl fr to e) e4 p (by omega) (by omega)
            have l := g6 _ e4 (by omega)
            have : mv (rtl fr to e) ≤ e := by
              rcases lastA_s (rtl fr to) (mv (rtl fr to e)) (rtl fr to e) with ⟨-, b2⟩ | ⟨e', b1, -⟩
              · exact Nat.le_of_not_lt (fun q => b2 e q rfl)
              · omega
            have := g5 _ e4 e this e1 rfl e3
            rw [e2] at this
            exact this
        rcases g1 v v1 with q | q
        · omega
        · exact q
    have := hp.2.2.1 201 (by omega)
    have := key 202 201 (by omega) (by decide) hp.2.1 (by omega)
    exact hp.2.1 (by rw [← g2]; exact this)
set_option maxHeartbeats 4000000 in
theorem c_pushRound {E : zE} {M : zM} {Q : Int → zM → Prop} {n : Nat} {fr to : Nat → Nat} {cap x : Nat → Int} {val : Int} (hN : cNet M n fr to cap x) (hF : Flow 202 200 201 n fr to cap x val) (hD : ∀ v, v < 202 → -1 ≤ M 62 v ∧ M 62 v ≤ 1000)
    (h : ∀ (M' : zM) (r : Int) (x' : Nat → Int), 0 ≤ r → (∀ y, y ≠ 61 → y ≠ 62 → y ≠ 63 → y ≠ 65 → M' y = M y) → cNet M' n fr to cap x' → Flow 202 200 201 n fr to cap x' (val + r) → (prog n fr to cap x (M 62) → 1 ≤ r) → Q r M') : zP E mX2_pushRound [.inr (.inr 57)] M Q := by
  refine vcX2_pushRound (fun c l1 l2 l3 l4 M' => ∃ (node len mvn : Nat) (x' : Nat → Int) (mv pn pe : Nat → Nat), l2 = (node : Int) ∧ l3 = (len : Int) ∧ l4 = (mvn : Int) ∧ mvn ≤ 1000000 ∧ c = 1000000 - mvn ∧ prI M n fr to cap x val l1 node len mvn M' x' mv pn pe) ⟨by decide, fun M1 h1 => ?_⟩ ?_
  · have f1 : ∀ y, y ≠ 63 → M1 y = M y := fun y hy => by rw [h1]; exact zcopy_ne _ hy
    refine ⟨1000000 - 0, 200, 0, 0, x, fun _ => 2 * n, fun _ => 200, fun _ => 0, rfl, rfl, rfl, by omega, rfl, fun y _ _ y3 _ => f1 y y3, ?_, by rw [Int.add_zero]; exact hF, Int.le_refl _, fun v hv => by rw [f1 _ (by decide)]; exact hD v hv, fun v hv => ⟨Nat.le_refl _, ?_⟩, ⟨rfl, by omega, rfl, fun i hi => by show 200 < 202; omega, fun i hi => by omega⟩, Or.inr ⟨rfl, rfl, fun hp => ?_⟩⟩
    · obtain ⟨b1, b2, b3, b4, b5⟩ := hN
      unfold cNet
      rw [f1 57 (by decide), f1 60 (by decide), f1 61 (by decide), f1 59 (by decide), f1 58 (by decide)]
      exact ⟨b1, b2, b3, b4, b5⟩
    · rw [h1, zcopy_r, if_pos ⟨rfl, by omega, by omega⟩, show 0 + (v - 0) = v by omega]
      exact hN.2.2.2.1 v hv
    · rw [f1 _ (by decide)]
      exact ⟨fun v hv => Or.inl rfl, rfl, rfl, by omega, fun v hv e e1 e2 => absurd (show 2 * n ≤ e from e1) (by omega), fun v hv hd => absurd rfl hd⟩
  · rintro c l1 l2 l3 l4 M' ⟨node, len, mvn, x', mv, pn, pe, rfl, rfl, rfl, hm, rfl, hI⟩
    have hI0 := hI
    obtain ⟨a1, a2, a3, a4, a5, a6, ⟨a7, a8, a9⟩, a10⟩ := hI
    have nb : node < 202 := by rw [← a7]; exact a9.2.1 _ (Nat.le_refl _)
    have lz : zR (len : Int) := by unfold zR; omega
    have nz : zR (node : Int) := by unfold zR; omega
    refine ⟨by unfold zR; omega, fun q => ?_, fun q => ⟨nz, fun q1 => ?_, fun q1 => ⟨nz, fun q2 => absurd q1 q2, fun _ => ?_⟩⟩⟩
    · refine h M' l1 x' a4 a1 a2 a3 (fun hp => ?_)
      rcases a10 with q2 | ⟨q2, q3, q4⟩
      · exact q2
      · exfalso
        have := (q4 hp).2.2.2.1
        have c1 := cnt_le 202 (M 62)
        have c2 := cnt_le 202 (M' 62)
        omega
    · refine c_deeperArc a2 (fun v hv => by have := a5 v hv; unfold zR; omega) nb (a6 node nb).1 (a6 node nb).2 ?_
      intro r m' r1 r2 r3 r4
      have n201 : node ≠ 201 := by omega
      have back : 0 < len → (r = -1 ∨ len = 202) → (0 ≤ (node : Int) ∧ (node : Int) < 202) ∧ (∀ M4, M4 = zup (zup M' 63 node r) 62 node (-1) → (0 ≤ (len : Int) + -1 ∧ (len : Int) + -1 < 202) ∧ (0 ≤ zxor (M4 65 (((len : Int) + -1).toNat)) 1 ∧ zxor (M4 65 (((len : Int) + -1).toNat)) 1 < 1088) ∧ ∃ n', n' < 1000000 - mvn ∧ ∃ (node' len' mvn' : Nat) (x'' : Nat → Int) (mv' pn' pe' : Nat → Nat), M4 60 ((zxor (M4 65 (((len : Int) + -1).toNat)) 1).toNat) = (node' : Int) ∧ (len : Int) + -1 = (len' : Int) ∧ (mvn : Int) + 1 = (mvn' : Int) ∧ mvn' ≤ 1000000 ∧ n' = 1000000 - mvn' ∧ prI M n fr to cap x val l1 node' len' mvn' M4 x'' mv' pn' pe') := by
        intro l0 hh
        refine ⟨by omega, fun M4 h4 => ?_⟩
        have ix : ((len : Int) + -1).toNat = len - 1 := by omega
        obtain ⟨p1, p2, p3, p4, p5, p6⟩ := a9.2.2 (len - 1) (by omega)
        have e1 : M4 65 (len - 1) = (pe (len - 1) : Int) := by rw [h4, zup_ne _ _ _ (by decide), zup_ne _ _ _ (by decide)]; exact p1
        have n544 := a2.2.1
        have os := opp_s (pe (len - 1))
        have ob : opp (pe (len - 1)) < 2 * n := by omega
        have e2 : M4 60 (opp (pe (len - 1))) = (pn (len - 1) : Int) := by rw [h4, zup_ne _ _ _ (by decide), zup_ne _ _ _ (by decide), (a2.2.2.1 _ ob).1, rhd_opp, p3]
        rw [ix, e1, zxor1 _ (by omega), Int.toNat_natCast, e2]
        refine ⟨by omega, by omega, 1000000 - (mvn + 1), by omega, pn (len - 1), len - 1, mvn + 1, x', up1 mv node m', pn, pe, rfl, by omega, by omega, by omega, rfl, ?_⟩
        refine prI_back hI0 l0 n201 (fun y y1 y2 => by rw [h4, zup_ne _ _ _ y1, zup_ne _ _ _ y2]) (by rw [h4, zup_ne _ _ _ (by decide), zup_a]) (by rw [h4, zup_a, zup_ne _ _ _ (by decide)]) r1 r2 r3 hh
      have rz : zR r := by
        rcases r4 with q2 | ⟨e, e0, e1, e2, -⟩
        · rw [q2]; exact zRd rfl
        · have := a2.2.1
          unfold zR
          omega
      rw [Int.toNat_natCast]
      refine ⟨nz, fun _ => ⟨rz, fun q2 => ⟨lz, fun q3 => ?_, fun q3 => ?_⟩, fun q2 => ⟨lz, fun q3 => ⟨lz, fun q4 => ?_, fun q4 => ?_⟩, fun q3 => ⟨by omega, fun M6 h6 => ?_⟩⟩⟩, fun q2 => absurd q2 q1⟩
      · have l0 : len = 0 := by omega
        rw [q2] at r1
        refine h _ l1 x' a4 (fun y y1 y2 y3 y4 => by rw [zup_ne _ _ _ y3]; exact a1 y y1 y2 y3 y4) ?_ a3 (fun hp => prI_stop hI0 l0 r1 r2 r3 hp)
        obtain ⟨b1, b2, b3, b4, b5⟩ := a2
        unfold cNet
        rw [zup_ne _ _ _ (show 57 ≠ 63 by decide), zup_ne _ _ _ (show 60 ≠ 63 by decide), zup_ne _ _ _ (show 61 ≠ 63 by decide), zup_ne _ _ _ (show 59 ≠ 63 by decide), zup_ne _ _ _ (show 58 ≠ 63 by decide)]
        exact ⟨b1, b2, b3, b4, b5⟩
      · exact back (by omega) (Or.inl q2)
      · omega
      · exact back (by omega) (Or.inr (by omega))
      · rcases r4 with q4 | ⟨e, e0, e1, e2, e3, e4, e5⟩
        · exact absurd q4 q2
        · subst e0
          have n544 := a2.2.1
          have e6 : M6 60 e = (rhd fr to e : Int) := by rw [h6, zup_ne _ _ _ (by decide), zup_ne _ _ _ (by decide)]; exact (a2.2.2.1 e e2).1
          rw [Int.toNat_natCast, e6]
          rw [Int.toNat_natCast] at h6
          refine ⟨by omega, 1000000 - (mvn + 1), by omega, rhd fr to e, len + 1, mvn + 1, x', up1 mv node m', up1 pn (len + 1) (rhd fr to e), up1 pe len e, rfl, by omega, by omega, by omega, rfl, ?_⟩
          exact prI_on hI0 (by omega) (fun y y1 y2 => by rw [h6, zup_ne _ _ _ y1, zup_ne _ _ _ y2]) (by rw [h6, zup_ne _ _ _ (by decide), zup_a]) (by rw [h6, zup_a, zup_ne _ _ _ (by decide)]) r1 r2 r3 e2 e3 e4 e5
    · have n201 : node = 201 := by omega
      refine c_pushAlong a2 a3 a9 a8 (by rw [a7]; exact n201) ?_
      intro M8 r x8 r1 f8 n8 w8
      refine ⟨1000000 - (mvn + 1), by omega, 200, 0, mvn + 1, x8, mv, fun _ => 200, fun _ => 0, rfl, rfl, by omega, by omega, rfl, fun y y1 y2 y3 y4 => by rw [f8 y y1]; exact a1 y y1 y2 y3 y4, n8, by rw [← Int.add_assoc]; exact w8, by omega, fun v hv => by rw [f8 _ (by decide)]; exact a5 v hv, fun v hv => by rw [f8 _ (by decide)]; exact a6 v hv, ⟨rfl, by omega, rfl, fun i hi => by show 200 < 202; omega, fun i hi => by omega⟩, Or.inl (by omega)⟩
