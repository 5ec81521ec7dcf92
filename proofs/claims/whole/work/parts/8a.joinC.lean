/-! the class joins its arcs -/
theorem lastA_c {tl tl' : Nat → Nat} {m : Nat} (h : ∀ e, e < m → tl' e = tl e) (v : Nat) : lastA tl' m v = lastA tl m v := by
  induction m with
  | zero => rfl
  | succ m ih =>
    show (if tl' m = v then (m : Int) else lastA tl' m v) = (if tl m = v then (m : Int) else lastA tl m v)
    rw [h m (by omega), ih (fun e he => h e (by omega))]
def cH (M : zM) (m : Nat) (tl hd : Nat → Nat) (sp : Nat → Int) : Prop := M 57 4 = (m : Int) ∧ (∀ e, e < m → M 60 e = (hd e : Int) ∧ M 61 e = sp e ∧ M 59 e = lastA tl e (tl e)) ∧ (∀ v, v < 202 → M 58 v = lastA tl m v)
theorem cH_c {M : zM} {m : Nat} {tl hd tl' hd' : Nat → Nat} {sp sp' : Nat → Int} (h : cH M m tl hd sp) (h1 : ∀ e, e < m → tl' e = tl e ∧ hd' e = hd e ∧ sp' e = sp e) : cH M m tl' hd' sp' := by
  obtain ⟨a1, a2, a3⟩ := h
  refine ⟨a1, fun e he => ?_, fun v hv => ?_⟩
  · obtain ⟨b1, b2, b3⟩ := a2 e he
    obtain ⟨c1, c2, c3⟩ := h1 e he
    rw [c1, c2, c3, lastA_c (fun e' he' => (h1 e' (by omega)).1)]
    exact ⟨b1, b2, b3⟩
  · rw [lastA_c (fun e' he' => (h1 e' he').1)]
    exact a3 v hv
/-- what joining may change -/
def dJ (x j : Nat) : Bool := [58, 59, 60, 61].contains x || (x == 57 && [4].contains j)
theorem c_addArc {E : zE} {M : zM} {Q : Int → zM → Prop} {m : Nat} {tl hd : Nat → Nat} {sp : Nat → Int} (hH : cH M m tl hd sp) (hm : m < 1088) (ht : tl m < 202) (h : ∀ M' : zM, (∀ x j, dJ x j = false → M' x j = M x j) → cH M' (m + 1) tl hd sp → Q 0 M') : zP E mX2_addArc [.inr (.inr 57), .inl (tl m : Int), .inl (hd m : Int), .inl (sp m)] M Q := by
  obtain ⟨a1, a2, a3⟩ := hH
  refine vcX2_addArc _ _ _ ?_
  have hb : 0 ≤ M 57 4 ∧ M 57 4 < 1088 := by omega
  refine ⟨hb, fun M1 h1 => ?_⟩
  have e1 : M1 57 4 = M 57 4 := by rw [h1, zup_ne _ _ _ (by decide)]
  rw [e1]
  refine ⟨hb, fun M2 h2 => ?_⟩
  have e2 : M2 57 4 = M 57 4 := by rw [h2, zup_ne _ _ _ (by decide)]; exact e1
  rw [e2, Int.toNat_natCast]
  refine ⟨by omega, hb, fun M3 h3 => ⟨by omega, fun M4 h4 M5 h5 => ?_⟩⟩
  have e3 : M3 57 4 = M 57 4 := by rw [h3, zup_ne _ _ _ (by decide)]; exact e2
  have e4 : M4 57 4 = M 57 4 := by rw [h4, zup_ne _ _ _ (by decide)]; exact e3
  rw [e4, a1] at h5
  rw [e3, a1] at h4
  rw [a1, Int.toNat_natCast] at h1 h2 h3
  have k0 : M2 58 = M 58 := by rw [h2, zup_ne _ _ _ (by decide), h1, zup_ne _ _ _ (by decide)]
  rw [k0] at h3
  have k1 : M5 60 = up1 (M 60) m (hd m : Int) := by rw [h5, zup_ne _ _ _ (by decide), h4, zup_ne _ _ _ (by decide), h3, zup_ne _ _ _ (by decide), h2, zup_ne _ _ _ (by decide), h1, zup_a]
  have k2 : M5 61 = up1 (M 61) m (sp m) := by rw [h5, zup_ne _ _ _ (by decide), h4, zup_ne _ _ _ (by decide), h3, zup_ne _ _ _ (by decide), h2, zup_a, h1, zup_ne _ _ _ (by decide)]
  have k3 : M5 59 = up1 (M 59) m (M 58 (tl m)) := by rw [h5, zup_ne _ _ _ (by decide), h4, zup_ne _ _ _ (by decide), h3, zup_a, h2, zup_ne _ _ _ (by decide), h1, zup_ne _ _ _ (by decide)]
  have k4 : M5 58 = up1 (M 58) (tl m) (m : Int) := by rw [h5, zup_ne _ _ _ (by decide), h4, zup_a, h3, zup_ne _ _ _ (by decide), h2, zup_ne _ _ _ (by decide), h1, zup_ne _ _ _ (by decide)]
  refine h M5 ?_ ⟨?_, fun e he => ?_, fun v hv => ?_⟩
  · rw [h5]
    refine fr_t ?_ (fr_up rfl)
    rw [h4]
    refine fr_t ?_ (fr_up (by unfold dJ; rfl))
    rw [h3]
    refine fr_t ?_ (fr_up (by unfold dJ; rfl))
    rw [h2]
    refine fr_t ?_ (fr_up (by unfold dJ; rfl))
    rw [h1]
    exact fr_up (by unfold dJ; rfl)
  · rw [h5, zup_a, up1_s]
    rfl
  · rw [k1, k2, k3]
    by_cases q : e = m
    · rw [q, up1_s, up1_s, up1_s]
      exact ⟨rfl, rfl, a3 _ ht⟩
    · rw [up1_n _ _ q, up1_n _ _ q, up1_n _ _ q]
      exact a2 e (by omega)
  · rw [k4]
    show _ = if tl m = v then (m : Int) else lastA tl m v
    by_cases q : tl m = v
    · rw [if_pos q, ← q, up1_s]
    · rw [if_neg q, up1_n _ _ (fun r => q r.symm)]
      exact a3 v hv
/-- the class's number of a node -/
def cn (v : Nat) : Nat := if v = 400 then 200 else if v = 401 then 201 else v
def cf (L : Arcs) (a : Nat) : Nat := cn (aFr L a)
def ct (L : Arcs) (a : Nat) : Nat := cn (aTo L a)
def cL (M : zM) (L : Arcs) : Prop := cH M (2 * L.length) (rtl (cf L) (ct L)) (rhd (cf L) (ct L)) (rsp (aCp L) (fun _ => 0))
theorem a_app (L : Arcs) (t : Nat × Nat × Int) (a : Nat) : (aFr (L ++ [t]) a = if a = L.length then t.1 else aFr L a) ∧ (aTo (L ++ [t]) a = if a = L.length then t.2.1 else aTo L a) ∧ (aCp (L ++ [t]) a = if a = L.length then t.2.2 else aCp L a) := by
  unfold aFr aTo aCp
  by_cases q : a = L.length
  · subst q
    rw [if_pos rfl, if_pos rfl, if_pos rfl, List.getD_eq_getElem?_getD, List.getElem?_append_right (Nat.le_refl _), Nat.sub_self]
    exact ⟨rfl, rfl, rfl⟩
  · rw [if_neg q, if_neg q, if_neg q, List.getD_eq_getElem?_getD, List.getD_eq_getElem?_getD]
    by_cases q2 : a < L.length
    · rw [List.getElem?_append_left q2]
      exact ⟨rfl, rfl, rfl⟩
    · rw [List.getElem?_eq_none (by rw [List.length_append, List.length_singleton]; omega), List.getElem?_eq_none (by omega)]
      exact ⟨rfl, rfl, rfl⟩
theorem c_joinN {E : zE} {M : zM} {Q : Int → zM → Prop} {L : Arcs} {a b : Nat} {c : Int} {a' b' : Int} (hL : cL M L) (hl : L.length < 544) (ha : cn a < 202) (hb : cn b < 202) (ea : a' = (cn a : Int)) (eb : b' = (cn b : Int)) (h : ∀ M' : zM, (∀ x j, dJ x j = false → M' x j = M x j) → cL M' (L ++ [(a, b, c)]) → Q 0 M') : zP E mX2_join [.inr (.inr 57), .inl a', .inl b', .inl c] M Q := by
  subst ea eb
  refine vcX2_join _ _ _ ?_
  have n0 := hL.1
  refine ⟨by rw [n0]; unfold zR; omega, fun q => by omega, fun _ => ?_⟩
  have hH : cH M (2 * L.length) (rtl (cf (L ++ [(a, b, c)])) (ct (L ++ [(a, b, c)]))) (rhd (cf (L ++ [(a, b, c)])) (ct (L ++ [(a, b, c)]))) (rsp (aCp (L ++ [(a, b, c)])) (fun _ => 0)) := by
    refine cH_c hL (fun e he => ?_)
    have hx : e / 2 ≠ L.length := by omega
    obtain ⟨x1, x2, x3⟩ := a_app L (a, b, c) (e / 2)
    rw [if_neg hx] at x1 x2 x3
    unfold rtl rhd rsp cf ct
    rw [x1, x2, x3]
    exact ⟨rfl, rfl, rfl⟩
  obtain ⟨x1, x2, x3⟩ := a_app L (a, b, c) L.length
  rw [if_pos rfl] at x1 x2 x3
  have y1 : rtl (cf (L ++ [(a, b, c)])) (ct (L ++ [(a, b, c)])) (2 * L.length) = cn a := by rw [rtl_0]; unfold cf; rw [x1]
  have y2 : rhd (cf (L ++ [(a, b, c)])) (ct (L ++ [(a, b, c)])) (2 * L.length) = cn b := by rw [rhd_0]; unfold ct; rw [x2]
  have y3 : rsp (aCp (L ++ [(a, b, c)])) (fun _ => 0) (2 * L.length) = c := by rw [rsp_0, x3]; exact Int.sub_zero _
  have z1 : rtl (cf (L ++ [(a, b, c)])) (ct (L ++ [(a, b, c)])) (2 * L.length + 1) = cn b := by rw [rtl_1]; unfold ct; rw [x2]
  have z2 : rhd (cf (L ++ [(a, b, c)])) (ct (L ++ [(a, b, c)])) (2 * L.length + 1) = cn a := by rw [rhd_1]; unfold cf; rw [x1]
  have z3 : rsp (aCp (L ++ [(a, b, c)])) (fun _ => 0) (2 * L.length + 1) = 0 := by rw [rsp_1]
  have k1 := c_addArc (E := E) (Q := fun r1 M2 => zP E mX2_addArc [.inr (.inr 57), .inl (cn b : Int), .inl (cn a : Int), .inl 0] M2 (fun r3 M4 => Q 0 M4)) hH (by omega) (by rw [y1]; exact ha)
  rw [y1, y2, y3] at k1
  refine k1 (fun M2 f2 h2 => ?_)
  have k2 := c_addArc (E := E) (Q := fun r3 M4 => Q 0 M4) h2 (by omega) (by rw [z1]; exact hb)
  rw [z1, z2, z3] at k2
  refine k2 (fun M4 f4 h4 => h M4 (fr_t f2 f4) ?_)
  unfold cL
  rw [List.length_append, List.length_singleton]
  exact h4
theorem cn_lt {v : Nat} (h : v < 200 ∨ v = 400 ∨ v = 401) : cn v < 202 ∧ (v < 200 → cn v = v) ∧ (v = 400 → cn v = 200) ∧ (v = 401 → cn v = 201) := by
  unfold cn
  rcases h with h | h | h
  · rw [if_neg (by omega), if_neg (by omega)]; omega
  · subst h; simp
  · subst h; simp
theorem cL_net {M : zM} {L : Arcs} (h : cL M L) (hl : L.length ≤ 544) (ho : ∀ t, t ∈ L → arcOk t) : cNet M L.length (cf L) (ct L) (aCp L) (fun _ => 0) := by
  obtain ⟨a1, a2, a3⟩ := h
  refine ⟨a1, hl, a2, a3, fun a ha => ?_⟩
  obtain ⟨c1, c2, c3⟩ := ho _ (a_get L ha).2
  simp only at c1 c2 c3
  exact ⟨(cn_lt (by omega)).1, (cn_lt (by omega)).1, ⟨Int.le_refl _, c3.1⟩, c3.2⟩
theorem cL_0 {M : zM} (h : M 57 4 = 0) (h2 : ∀ v, v < 202 → M 58 v = -1) : cL M [] := ⟨h, fun e he => absurd he (by show ¬ e < 2 * 0; omega), fun v hv => h2 v hv⟩
theorem cL_fr {M M' : zM} {L : Arcs} (f : ∀ y, (y = 60 ∨ y = 61 ∨ y = 59 ∨ y = 58) → M' y = M y) (f2 : M' 57 4 = M 57 4) (h : cL M L) : cL M' L := by
  unfold cL cH
  rw [f2, f 60 (by simp), f 61 (by simp), f 59 (by simp), f 58 (by simp)]
  exact h
/-- the most and the cut don't depend on how nodes are numbered -/
theorem fOut_cn {L : Arcs} {g : Nat → Nat} {x : Nat → Int} {n : Nat} (hg : ∀ a, a < n → g a < 200 ∨ g a = 400 ∨ g a = 401) (v : Nat) (hv : v < 200 ∨ v = 400 ∨ v = 401) : fOut n (fun a => cn (g a)) x (cn v) = fOut n g x v := by
  unfold fOut
  refine sm_congr (fun a ha => ?_)
  have g1 := hg a ha
  have e : (cn (g a) = cn v) ↔ (g a = v) := by
    have c1 := cn_lt g1
    have c2 := cn_lt hv
    omega
  by_cases q : g a = v
  · rw [if_pos q, if_pos (e.mpr q)]
  · rw [if_neg q, if_neg (fun r => q (e.mp r))]
def rn (v : Nat) : Nat := if v = 200 then 400 else if v = 201 then 401 else v
theorem rn_s {v : Nat} (h : v < 202) : (rn v < 200 ∨ rn v = 400 ∨ rn v = 401) ∧ cn (rn v) = v ∧ rn v < 402 := by
  unfold rn cn
  by_cases h1 : v = 200
  · subst h1; simp
  · by_cases h2 : v = 201
    · subst h2; simp
    · rw [if_neg h1, if_neg h2, if_neg (by omega), if_neg (by omega)]; omega
theorem mxf_cn {L : Arcs} (ho : ∀ t, t ∈ L → arcOk t) {r : Int} {S : Nat → Bool} (h : mxf 402 400 401 L.length (aFr L) (aTo L) (aCp L) r S) : mxf 202 200 201 L.length (cf L) (ct L) (aCp L) r (fun v => S (rn v)) := by
  obtain ⟨x, hF, h1, h2, hS, hL⟩ := h
  have of : ∀ a, a < L.length → aFr L a < 200 ∨ aFr L a = 400 ∨ aFr L a = 401 := fun a ha => by
    obtain ⟨c1, c2, c3⟩ := ho _ (a_get L ha).2
    simp only at c1
    omega
  have ot : ∀ a, a < L.length → aTo L a < 200 ∨ aTo L a = 400 ∨ aTo L a = 401 := fun a ha => by
    obtain ⟨c1, c2, c3⟩ := ho _ (a_get L ha).2
    simp only at c2
    omega
  have rc : ∀ v, (v < 200 ∨ v = 400 ∨ v = 401) → rn (cn v) = v := fun v hv => by
    have := cn_lt hv
    have := rn_s this.1
    have c2 := cn_lt this.1
    omega
  refine ⟨x, ⟨fun a ha => ⟨(hF.1 a ha).1, (cn_lt (of a ha)).1, (cn_lt (ot a ha)).1⟩, fun v hv v1 v2 => ?_, ?_⟩, h1, h2, fun a ha => ?_, ?_⟩
  · obtain ⟨s1, s2, s3⟩ := rn_s hv
    have e1 := fOut_cn (L := L) (x := x) of (rn v) s1
    have e2 := fOut_cn (L := L) (x := x) ot (rn v) s1
    rw [s2] at e1 e2
    show fOut L.length (fun a => cn (aFr L a)) x v = fOut L.length (fun a => cn (aTo L a)) x v
    rw [e1, e2]
    refine hF.2.1 (rn v) s3 (fun q => ?_) (fun q => ?_)
    · rw [q] at s2; exact v1 (by rw [← s2]; rfl)
    · rw [q] at s2; exact v2 (by rw [← s2]; rfl)
  · have e1 := fOut_cn (L := L) (x := x) of 400 (by omega)
    have e2 := fOut_cn (L := L) (x := x) ot 400 (by omega)
    show fOut L.length (fun a => cn (aFr L a)) x 200 - fOut L.length (fun a => cn (aTo L a)) x 200 = r
    rw [show (200 : Nat) = cn 400 from rfl, e1, e2]
    exact hF.2.2
  · show (S (rn (cn (aFr L a))) = true → S (rn (cn (aTo L a))) = false → _) ∧ (S (rn (cn (aFr L a))) = false → S (rn (cn (aTo L a))) = true → _)
    rw [rc _ (of a ha), rc _ (ot a ha)]
    exact hS a ha
  · intro T T0 hT v hv hSv
    obtain ⟨s1, s2, s3⟩ := rn_s hv
    have := hL (fun u => T (cn u)) T0 (fun a ha => hT a ha) (rn v) s3 hSv
    have : T (cn (rn v)) = true := this
    rw [s2] at this
    exact this
theorem mxf_one {L : Arcs} {r r' : Int} {S S' : Nat → Bool} (h : mxf 202 200 201 L.length (cf L) (ct L) (aCp L) r S) (h' : mxf 202 200 201 L.length (cf L) (ct L) (aCp L) r' S') : r = r' ∧ ∀ v, v < 202 → S v = S' v := by
  obtain ⟨x, a1, a2, a3, a4, a5⟩ := h
  obtain ⟨y, b1, b2, b3, b4, b5⟩ := h'
  exact flow_one (by decide) a1 b1 (fun _ => rfl) a2 a3 b2 b3 a4 b4 a5 b5
