/-! the reference leads people out: the most, and the cut -/
def aFr (L : Arcs) (a : Nat) : Nat := (L.getD a (0, 0, 0)).1
def aTo (L : Arcs) (a : Nat) : Nat := (L.getD a (0, 0, 0)).2.1
def aCp (L : Arcs) (a : Nat) : Int := (L.getD a (0, 0, 0)).2.2
theorem a_get (L : Arcs) {a : Nat} (h : a < L.length) : L[a]? = some (aFr L a, aTo L a, aCp L a) ∧ (aFr L a, aTo L a, aCp L a) ∈ L := by
  have e : L[a]? = some (L.getD a (0, 0, 0)) := by
    rw [List.getD_eq_getElem?_getD, List.getElem?_eq_getElem h]
    rfl
  refine ⟨e, ?_⟩
  exact List.mem_of_getElem? e
def arcOk (t : Nat × Nat × Int) : Prop := (t.1 < 200 ∨ t.1 = 400) ∧ (t.2.1 < 200 ∨ t.2.1 = 401) ∧ (0 ≤ t.2.2 ∧ t.2.2 ≤ 1000000)
theorem aR_net {M : zM} {L : Arcs} (h : aR M L) (hl : L.length ≤ 1400) (ho : ∀ t, t ∈ L → arcOk t) : rNet M L.length (aFr L) (aTo L) (aCp L) (fun _ => 0) := by
  refine ⟨h.1, hl, fun a ha => ?_⟩
  obtain ⟨g1, g2⟩ := a_get L ha
  obtain ⟨b1, b2, b3, b4⟩ := h.2 a _ g1
  obtain ⟨c1, c2, c3⟩ := ho _ g2
  simp only at b1 b2 b3 b4 c1 c2 c3
  exact ⟨b1, b2, by rw [b3]; exact (Int.sub_zero _).symm, b4, by omega, by omega, ⟨Int.le_refl _, c3.1⟩, c3.2⟩
theorem hrA_ok {p : Nat} {b tl : Int} (hp : p < 8) (i : Nat) (hi : i ≤ 24) : ∀ t, t ∈ hrA p b tl i → arcOk t ∧ t.1 ≠ 400 := by
  induction i with
  | zero => intro t ht; cases ht
  | succ i ih =>
    intro t ht
    rcases List.mem_append.mp ht with q | q
    · exact ih (by omega) t q
    · by_cases g : b + i + 1 ≤ tl
      · rw [if_pos g] at q
        have := List.mem_singleton.mp q
        subst this
        exact ⟨⟨by show 25 * p + i < 200 ∨ _; omega, by show 25 * p + i + 1 < 200 ∨ _; omega, by show (0 : Int) ≤ 1000000 ∧ (1000000 : Int) ≤ 1000000; omega⟩, by show 25 * p + i ≠ 400; omega⟩
      · rw [if_neg g] at q
        cases q
theorem skA_ok {M : zM} {w p : Nat} {sc : Nat → Int} (hp : p < 8) (hs : 0 ≤ M 132 w ∧ M 132 w ≤ 99) (hr : M 142 p = 0 → 0 ≤ M 147 p ∧ M 147 p ≤ 9999) : ∀ t, t ∈ skA M sc w p → arcOk t ∧ t.1 ≠ 400 := by
  intro t ht
  have bf := bf_r hs
  unfold skA at ht
  by_cases g : tillP M sc w p = fns M w
  · rw [if_pos g] at ht
    have := List.mem_singleton.mp ht
    subst this
    refine ⟨⟨?_, ?_, ?_⟩, ?_⟩
    · show 25 * p + (fns M w - bgn M w).toNat < 200 ∨ _
      omega
    · exact Or.inr rfl
    · show 0 ≤ (if M 142 p = 0 then M 147 p else 1000000) ∧ (if M 142 p = 0 then M 147 p else 1000000) ≤ 1000000
      by_cases q : M 142 p = 0
      · rw [if_pos q]
        have := hr q
        omega
      · rw [if_neg q]; omega
    · show 25 * p + (fns M w - bgn M w).toNat ≠ 400
      omega
  · rw [if_neg g] at ht
    cases ht
theorem brA_c {M : zM} {w p : Nat} {sc wf : Nat → Int} : brA M sc wf w p = [] ∨ ∃ v, brA M sc wf w p = [(400, v, M 144 p)] ∧ M 142 p = 1 ∧ wf p ≠ -1 ∧ wf p ≤ fns M w ∧ v = 25 * p + ((if wf p < bgn M w then bgn M w else wf p) - bgn M w).toNat := by
  unfold brA
  by_cases g : M 142 p = 1 ∧ wf p ≠ -1 ∧ wf p ≤ fns M w ∧ (if wf p < bgn M w then bgn M w else wf p) ≤ tillP M sc w p
  · rw [if_pos g]
    exact Or.inr ⟨_, rfl, g.1, g.2.1, g.2.2.1, rfl⟩
  · rw [if_neg g]
    exact Or.inl rfl
theorem plA_ok {M : zM} {w p : Nat} {sc wf : Nat → Int} (hp : p < 8) (hs : 0 ≤ M 132 w ∧ M 132 w ≤ 99) (hr : M 142 p = 0 → 0 ≤ M 147 p ∧ M 147 p ≤ 9999) (hq : M 142 p = 1 → 1 ≤ M 144 p ∧ M 144 p ≤ 999) : ∀ t, t ∈ plA M sc wf w p → arcOk t := by
  intro t ht
  have bf := bf_r hs
  unfold plA at ht
  rcases List.mem_append.mp ht with q | q
  · rcases List.mem_append.mp q with q | q
    · exact (hrA_ok hp _ (by omega) t q).1
    · exact (skA_ok hp hs hr t q).1
  · rcases brA_c (M := M) (w := w) (p := p) (sc := sc) (wf := wf) with e | ⟨v, e, a1, a2, a3, a4⟩
    · rw [e] at q; cases q
    · rw [e] at q
      have := List.mem_singleton.mp q
      subst this
      have b := hq a1
      refine ⟨Or.inr rfl, Or.inl ?_, ?_⟩
      · show v < 200
        rw [a4]
        split <;> omega
      · show 0 ≤ M 144 p ∧ M 144 p ≤ 1000000
        omega
theorem rdA_ok {M : zM} {w r : Nat} {sc : Nat → Int} (hf : 0 ≤ M 148 r ∧ M 148 r < 8) (ht : 0 ≤ M 149 r ∧ M 149 r < 8) (hh : 1 ≤ M 150 r ∧ M 150 r ≤ 5) (hc : 1 ≤ M 151 r ∧ M 151 r ≤ 999) (hs : 0 ≤ M 132 w ∧ M 132 w ≤ 99) (htl : tillP M sc w (M 149 r).toNat ≤ fns M w) (i : Nat) (hi : i ≤ 24) : ∀ t, t ∈ rdA M sc w r i → arcOk t ∧ t.1 ≠ 400 := by
  have bf := bf_r hs
  induction i with
  | zero => intro t ht; cases ht
  | succ i ih =>
    intro t ht
    rcases List.mem_append.mp ht with q | q
    · exact ih (by omega) t q
    · by_cases g : rdOn M sc w r (bgn M w + i)
      · rw [if_pos g] at q
        have := List.mem_singleton.mp q
        subst this
        have g3 := g.2.2.1
        refine ⟨⟨Or.inl ?_, Or.inl ?_, ?_⟩, ?_⟩
        · show 25 * (M 148 r).toNat + i < 200; omega
        · show 25 * (M 149 r).toNat + i + (M 150 r).toNat < 200; omega
        · show 0 ≤ M 151 r ∧ M 151 r ≤ 1000000; omega
        · show 25 * (M 148 r).toNat + i ≠ 400; omega
      · rw [if_neg g] at q
        cases q
/-- places and roads as they lie, whatever the memory's other cells -/
def ntOk (M : zM) (sc : Nat → Int) (w : Nat) : Prop := (0 ≤ M 102 69 ∧ M 102 69 ≤ 8) ∧ (0 ≤ M 102 76 ∧ M 102 76 ≤ 14) ∧ (0 ≤ M 132 w ∧ M 132 w ≤ 99) ∧
  (∀ p : Nat, (p : Int) < M 102 69 → (M 142 p = 0 ∧ (0 ≤ M 147 p ∧ M 147 p ≤ 9999)) ∨ (M 142 p = 1 ∧ (1 ≤ M 144 p ∧ M 144 p ≤ 999) ∧ (1 ≤ sc (M 143 p).toNat ∧ sc (M 143 p).toNat ≤ 13))) ∧
  (∀ r : Nat, (r : Int) < M 102 76 → (0 ≤ M 148 r ∧ M 148 r < M 102 69) ∧ (0 ≤ M 149 r ∧ M 149 r < M 102 69) ∧ (1 ≤ M 150 r ∧ M 150 r ≤ 5) ∧ (1 ≤ M 151 r ∧ M 151 r ≤ 999))
theorem nt_till {M : zM} {sc : Nat → Int} {w p : Nat} (h : ntOk M sc w) (hp : (p : Int) < M 102 69) : M 132 w ≤ tillP M sc w p ∧ tillP M sc w p ≤ fns M w := by
  unfold tillP fns
  rcases h.2.2.2.1 p hp with ⟨a, -⟩ | ⟨a, -, b⟩
  · rw [if_pos a]; omega
  · rw [if_neg (by omega)]; omega
theorem plsA_ok {M : zM} {sc wf : Nat → Int} {w : Nat} (h : ntOk M sc w) (p : Nat) (hp : (p : Int) ≤ M 102 69) : ∀ t, t ∈ plsA M sc wf w p → arcOk t := by
  induction p with
  | zero => intro t ht; cases ht
  | succ p ih =>
    intro t ht
    rcases List.mem_append.mp ht with q | q
    · exact ih (by omega) t q
    · have c := h.2.2.2.1 p (by omega)
      have := h.1
      exact plA_ok (by omega) h.2.2.1 (fun e => by omega) (fun e => by omega) t q
theorem rdsA_ok {M : zM} {sc : Nat → Int} {w : Nat} (h : ntOk M sc w) (r : Nat) (hr : (r : Int) ≤ M 102 76) : ∀ t, t ∈ rdsA M sc w r → arcOk t ∧ t.1 ≠ 400 := by
  induction r with
  | zero => intro t ht; cases ht
  | succ r ih =>
    intro t ht
    rcases List.mem_append.mp ht with q | q
    · exact ih (by omega) t q
    · obtain ⟨c1, c2, c3, c4⟩ := h.2.2.2.2 r (by omega)
      have := h.1
      have bf := bf_r h.2.2.1
      exact rdA_ok (by omega) (by omega) c3 c4 h.2.2.1 (nt_till h (by omega)).2 _ (by omega) t q
theorem netL_ok {M : zM} {sc wf : Nat → Int} {w : Nat} (h : ntOk M sc w) : (∀ t, t ∈ netL M sc wf w → arcOk t) ∧ (netL M sc wf w).length ≤ 544 := by
  refine ⟨fun t ht => ?_, netL_len h.2.2.1 h.1.2 h.2.1.2⟩
  rcases List.mem_append.mp ht with q | q
  · have := h.1
    exact plsA_ok h _ (by omega) t q
  · have := h.2.1
    exact (rdsA_ok h _ (by omega) t q).1
/-- a sum over a list -/
def lsm (g : Nat × Nat × Int → Int) : Arcs → Int
  | [] => 0
  | t :: L => g t + lsm g L
theorem lsm_app (g : Nat × Nat × Int → Int) (L L' : Arcs) : lsm g (L ++ L') = lsm g L + lsm g L' := by
  induction L with
  | nil => show lsm g L' = 0 + lsm g L'; omega
  | cons t L ih => show g t + lsm g (L ++ L') = g t + lsm g L + lsm g L'; rw [ih]; omega
theorem lsm_0 {g : Nat × Nat × Int → Int} {L : Arcs} (h : ∀ t, t ∈ L → g t = 0) : lsm g L = 0 := by
  induction L with
  | nil => rfl
  | cons t L ih =>
    show g t + lsm g L = 0
    rw [h t (List.mem_cons_self ..), ih (fun t ht => h t (List.mem_cons_of_mem _ ht))]
    rfl
theorem sm_shift (n : Nat) (f : Nat → Int) : sm (n + 1) f = f 0 + sm n (fun i => f (i + 1)) := by
  induction n with
  | zero => show 0 + f 0 = f 0 + 0; omega
  | succ n ih =>
    show sm (n + 1) f + f (n + 1) = f 0 + (sm n (fun i => f (i + 1)) + f (n + 1))
    rw [ih]
    omega
theorem sm_lsm (g : Nat × Nat × Int → Int) (L : Arcs) : sm L.length (fun a => g (aFr L a, aTo L a, aCp L a)) = lsm g L := by
  induction L with
  | nil => rfl
  | cons t L ih =>
    show sm (L.length + 1) _ = g t + lsm g L
    rw [sm_shift, ← ih]
    rfl
/-- what can leave the source is at most the people that are warned in time; with those that stay, all people -/
theorem cut_src {M : zM} {sc wf : Nat → Int} {w : Nat} (h : ntOk M sc w) : styF M sc wf w (M 102 69).toNat + cutF (netL M sc wf w).length (aFr (netL M sc wf w)) (aTo (netL M sc wf w)) (aCp (netL M sc wf w)) (fun v => v == 400) ≤ ap M (M 102 69).toNat ∧ 0 ≤ styF M sc wf w (M 102 69).toNat := by
  have e : cutF (netL M sc wf w).length (aFr (netL M sc wf w)) (aTo (netL M sc wf w)) (aCp (netL M sc wf w)) (fun v => v == 400) = lsm (fun t => if (t.1 == 400) = true ∧ (t.2.1 == 400) = false then t.2.2 else 0) (netL M sc wf w) := by
    rw [← sm_lsm]
    rfl
  rw [e]
  unfold netL
  rw [lsm_app]
  have e2 : lsm (fun t => if (t.1 == 400) = true ∧ (t.2.1 == 400) = false then t.2.2 else 0) (rdsA M sc w (M 102 76).toNat) = 0 := by
    refine lsm_0 (fun t ht => ?_)
    have := (rdsA_ok h _ (by have := h.2.1; omega) t ht).2
    show (if (t.1 == 400) = true ∧ (t.2.1 == 400) = false then t.2.2 else 0) = 0
    rw [if_neg (fun q => this (by simpa using q.1))]
  rw [e2, Int.add_zero]
  have key : ∀ p : Nat, (p : Int) ≤ M 102 69 → styF M sc wf w p + lsm (fun t => if (t.1 == 400) = true ∧ (t.2.1 == 400) = false then t.2.2 else 0) (plsA M sc wf w p) ≤ ap M p ∧ 0 ≤ styF M sc wf w p := by
    intro p hp
    induction p with
    | zero => exact ⟨by show (0 : Int) + 0 ≤ 0; omega, Int.le_refl _⟩
    | succ p ih =>
      have ih := ih (by omega)
      have c := h.2.2.2.1 p (by omega)
      have P8 := h.1
      have bf := bf_r h.2.2.1
      show (styF M sc wf w p + (if M 142 p = 1 ∧ (wf p = -1 ∨ fns M w < wf p) ∧ tillP M sc w p = fns M w then M 144 p else 0)) + lsm _ (plsA M sc wf w p ++ plA M sc wf w p) ≤ ap M p + (if M 142 p = 0 then 0 else M 144 p) ∧ 0 ≤ styF M sc wf w p + (if M 142 p = 1 ∧ (wf p = -1 ∨ fns M w < wf p) ∧ tillP M sc w p = fns M w then M 144 p else 0)
      rw [lsm_app]
      unfold plA
      rw [lsm_app, lsm_app]
      have z1 : lsm (fun t => if (t.1 == 400) = true ∧ (t.2.1 == 400) = false then t.2.2 else 0) (hrA p (bgn M w) (tillP M sc w p) (fns M w - bgn M w).toNat) = 0 := by
        refine lsm_0 (fun t ht => ?_)
        have := (hrA_ok (show p < 8 by omega) _ (by omega) t ht).2
        show (if (t.1 == 400) = true ∧ (t.2.1 == 400) = false then t.2.2 else 0) = 0
        rw [if_neg (fun q => this (by simpa using q.1))]
      have z2 : lsm (fun t => if (t.1 == 400) = true ∧ (t.2.1 == 400) = false then t.2.2 else 0) (skA M sc w p) = 0 := by
        refine lsm_0 (fun t ht => ?_)
        have := (skA_ok (sc := sc) (show p < 8 by omega) h.2.2.1 (fun e => by omega) t ht).2
        show (if (t.1 == 400) = true ∧ (t.2.1 == 400) = false then t.2.2 else 0) = 0
        rw [if_neg (fun q => this (by simpa using q.1))]
      rw [z1, z2]
      rcases brA_c (M := M) (w := w) (p := p) (sc := sc) (wf := wf) with e | ⟨v, e, a1, a2, a3, a4⟩
      · rw [e]
        show _ + (lsm _ _ + (0 + 0 + 0)) ≤ _ ∧ _
        by_cases q : M 142 p = 1 ∧ (wf p = -1 ∨ fns M w < wf p) ∧ tillP M sc w p = fns M w
        · rw [if_pos q, if_neg (by omega)]
          omega
        · rw [if_neg q]
          by_cases q2 : M 142 p = 0
          · rw [if_pos q2]; omega
          · rw [if_neg q2]; omega
      · rw [e, if_neg (fun q => by omega), if_neg (by omega)]
        have v4 : v ≠ 400 := by
          rw [a4]
          split <;> omega
        have l1 : lsm (fun t => if (t.1 == 400) = true ∧ (t.2.1 == 400) = false then t.2.2 else 0) [(400, v, M 144 p)] = M 144 p := by
          show (if ((400 : Nat) == 400) = true ∧ (v == 400) = false then M 144 p else 0) + 0 = _
          rw [if_pos ⟨rfl, by simpa using v4⟩]
          omega
        rw [l1]
        omega
  have P8 := h.1
  exact key _ (by omega)
