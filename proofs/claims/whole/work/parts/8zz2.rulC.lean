/-! the reader of rules: within a line, and what binding does -/
def hdOk (H : Nat → Int) : List Nat → Prop
  | [] => True
  | a :: r => H r.length = 64 + (a : Int) ∧ hdOk H r
theorem hd_g {H H' : Nat → Int} (s : List Nat) (h : ∀ i, i < s.length → H' i = H i) (q : hdOk H s) : hdOk H' s := by
  induction s with
  | nil => trivial
  | cons a r ih =>
    have hl : (a :: r).length = r.length + 1 := rfl
    exact ⟨by rw [h _ (by omega)]; exact q.1, ih (fun i hi => h i (by omega)) q.2⟩
/-- the class's sign t and the reference's k -/
def wtR (t k : Int) : Prop := (t = 18 ∧ k = 100) ∨ (t = 31 ∧ k = 11) ∨ (t = 4 ∧ k = 12) ∨ (opTwo t ∧ k = opk t)
theorem opTwo_c {t : Int} (h : opTwo t) : t = 2 ∨ t = 3 ∨ t = 21 ∨ t = 22 ∨ t = 23 ∨ t = 24 ∨ t = 25 ∨ t = 26 ∨ t = 27 ∨ t = 28 ∨ t = 29 ∨ t = 30 := by
  unfold opTwo at h
  omega
theorem wt_w {t k : Int} (h : wtR t k) : stre t = wgt k ∧ zR k := by
  rcases h with ⟨rfl, rfl⟩ | ⟨rfl, rfl⟩ | ⟨rfl, rfl⟩ | ⟨h, rfl⟩
  · exact ⟨rfl, zRd rfl⟩
  · exact ⟨rfl, zRd rfl⟩
  · exact ⟨rfl, zRd rfl⟩
  · rcases opTwo_c h with rfl | rfl | rfl | rfl | rfl | rfl | rfl | rfl | rfl | rfl | rfl | rfl <;> exact ⟨rfl, zRd rfl⟩
theorem opk_r {t : Int} (h : opTwo t) : (1 ≤ opk t ∧ opk t ≤ 10) ∨ opk t = 13 ∨ opk t = 14 := by
  rcases opTwo_c h with rfl | rfl | rfl | rfl | rfl | rfl | rfl | rfl | rfl | rfl | rfl | rfl <;> decide
/-- how many of those that wait are no parentheses; take two values -/
def nwc (K : Nat → Int) : Nat → Nat
  | 0 => 0
  | n + 1 => nwc K n + (if K n = 100 then 0 else 1)
def bnc (K : Nat → Int) : Nat → Nat
  | 0 => 0
  | n + 1 => bnc K n + (if K n = 100 ∨ K n = 11 ∨ K n = 12 then 0 else 1)
theorem nwc_g {K K' : Nat → Int} (n : Nat) (h : ∀ i, i < n → K' i = K i) : nwc K' n = nwc K n ∧ bnc K' n = bnc K n := by
  induction n with
  | zero => exact ⟨rfl, rfl⟩
  | succ n ih =>
    obtain ⟨i1, i2⟩ := ih (fun i hi => h i (by omega))
    unfold nwc bnc
    rw [i1, i2, h n (by omega)]
    exact ⟨rfl, rfl⟩
def eInv (f : Nat) (V M : zM) (o0 c w kn vl : Nat) (s : List Nat) : Prop :=
  (M 102 39 = ((o0 + c : Nat) : Int) ∧ V f 7 = ((o0 + c : Nat) : Int)) ∧ kn ≤ 64 ∧
  (∀ j : Nat, j < o0 + c → ∃ a : Nat, M 119 (64 + j) = 64 + (a : Int) ∧ a < kn) ∧
  chn (shM V M) f o0 c s ∧
  (M 102 44 = (s.length : Int) ∧ hdOk (M 125) s ∧ s.length = bnc (M 123) w + vl) ∧
  (M 102 42 = (w : Int) ∧ V 1 7 = (w : Int)) ∧
  (∀ i : Nat, i < w → wtR (V 4 i) (M 123 i)) ∧
  (∀ i : Nat, i < w → M 123 i ≠ 100 → ∃ a : Nat, M 124 i = 64 + (a : Int) ∧ a < kn ∧ M 113 (64 + a) = M 123 i ∧ (∀ j : Nat, j < o0 + c → M 119 (64 + j) ≠ 64 + (a : Int)) ∧ ∀ i' : Nat, i' < i → M 123 i' ≠ 100 → M 124 i' ≠ 64 + (a : Int)) ∧
  nwc (M 123) w + (o0 + c) ≤ kn
/-- the class's cells as a sign t leaves those that wait -/
def ppV (f : Nat) (V : zM) (w : Nat) (t : Int) : zM := wrM (zup V 1 7 (w : Int)) f t 0 0
theorem ppV_q {f : Nat} {V : zM} {o w : Nat} {t : Int} (hf : f = 6 ∨ f = 13) (hs : V f 7 = (o : Int)) (ho : o < 64) :
    (∀ j, ppV f V w t (f + 1) j = if j = o then t else V (f + 1) j) ∧ (∀ j, ppV f V w t (f + 2) j = if j = o then 0 else V (f + 2) j) ∧ (∀ j, ppV f V w t (f + 3) j = if j = o then 0 else V (f + 3) j) ∧ ppV f V w t f 7 = (o : Int) + 1 ∧ ppV f V w t 1 7 = (w : Int) ∧ ppV f V w t 4 = V 4 := by
  have e : (zup V 1 7 (w : Int)) f 7 = (o : Int) := by rw [zup_ne _ _ _ (by omega)]; exact hs
  have e2 : ppV f V w t = zup (zup (zup (zup (zup V 1 7 (w : Int)) (f + 1) o t) (f + 2) o 0) (f + 3) o 0) f 7 ((o : Int) + 1) := by
    unfold ppV
    rw [wr_q (by omega), e, Int.toNat_natCast]
  rw [e2]
  refine ⟨fun j => ?_, fun j => ?_, fun j => ?_, ?_, ?_, ?_⟩
  · rw [zup_ne _ _ _ (by omega), zup_ne _ _ _ (by omega), zup_ne _ _ _ (by omega), zup_q]
    by_cases q : j = o
    · rw [if_pos ⟨rfl, q⟩, if_pos q]
    · rw [if_neg (fun q2 => q q2.2), if_neg q, zup_ne _ _ _ (by omega)]
  · rw [zup_ne _ _ _ (by omega), zup_ne _ _ _ (by omega), zup_q]
    by_cases q : j = o
    · rw [if_pos ⟨rfl, q⟩, if_pos q]
    · rw [if_neg (fun q2 => q q2.2), if_neg q, zup_ne _ _ _ (by omega), zup_ne _ _ _ (by omega)]
  · rw [zup_ne _ _ _ (by omega), zup_q]
    by_cases q : j = o
    · rw [if_pos ⟨rfl, q⟩, if_pos q]
    · rw [if_neg (fun q2 => q q2.2), if_neg q, zup_ne _ _ _ (by omega), zup_ne _ _ _ (by omega), zup_ne _ _ _ (by omega)]
  · rw [zup_q, if_pos ⟨rfl, rfl⟩]
  · rw [zup_ne _ _ _ (by omega), zup_ne _ _ _ (by omega), zup_ne _ _ _ (by omega), zup_ne _ _ _ (by omega), zup_q, if_pos ⟨rfl, rfl⟩]
  · rw [zup_ne _ _ _ (by omega), zup_ne _ _ _ (by omega), zup_ne _ _ _ (by omega), zup_ne _ _ _ (by omega), zup_ne _ _ _ (by decide)]
/-- a knot that waited is done -/
theorem e_pop {f : Nat} {V M M' : zM} {o0 c w kn a : Nat} {s r : List Nat} (hf : f = 6 ∨ f = 13) (h : eInv f V M o0 c (w + 1) kn 1 s) (hk : M 123 w ≠ 100) (ha : M 124 w = 64 + (a : Int))
    (fr : ∀ x j, dBn x j = false → M' x j = M x j) (hwt : M' 102 42 = (w : Int)) (hhl : M' 102 44 = (r.length : Int) + 1) (hor : M' 102 39 = ((o0 + c : Nat) : Int) + 1) (hgb : ∀ j, M' 119 j = if j = 64 + (o0 + c) then 64 + (a : Int) else M 119 j)
    (hle : ∀ j, j ≠ 64 + a → M' 114 j = M 114 j) (hri : ∀ j, j ≠ 64 + a → M' 115 j = M 115 j) (hhd : ∀ j, M' 125 j = if j = r.length then 64 + (a : Int) else M 125 j)
    (hr : hdOk (M 125) r) (hlen : r.length = bnc (M 123) w) (hst : stp1 (shM (ppV f V w (V 4 w)) M') a s (a :: r)) (hop : opRel (shM (ppV f V w (V 4 w)) M') f (o0 + c) a) :
    eInv f (ppV f V w (V 4 w)) M' o0 (c + 1) w kn 1 (a :: r) ∧ agr (shM V M) (shM (ppV f V w (V 4 w)) M') f (o0 + c) := by
  obtain ⟨⟨i1, i2⟩, i3, i4, i5, ⟨i6, i7, i8⟩, ⟨i9, i10⟩, i11, i12, i13⟩ := h
  obtain ⟨a', a1, a2, a3, a4, a5⟩ := i12 w (by omega) hk
  have : a' = a := by omega
  subst this
  have nw : nwc (M 123) (w + 1) = nwc (M 123) w + 1 := by
    show nwc (M 123) w + (if M 123 w = 100 then 0 else 1) = _
    rw [if_neg hk]
  obtain ⟨p1, p2, p3, p4, p5, p6⟩ := ppV_q (w := w) (t := V 4 w) hf i2 (by omega)
  obtain ⟨V', hV'⟩ : ∃ V', V' = ppV f V w (V 4 w) := ⟨_, rfl⟩
  rw [← hV'] at p1 p2 p3 p4 p5 p6 hst hop ⊢
  have wt : M' 123 = M 123 := funext fun j => fr _ _ rfl
  have wo : M' 124 = M 124 := funext fun j => fr _ _ rfl
  have kn' : M' 113 = M 113 := funext fun j => fr _ _ rfl
  have am' : M' 116 = M 116 := funext fun j => fr _ _ rfl
  have wh' : M' 117 = M 117 := funext fun j => fr _ _ rfl
  have ov' : M' 118 = M 118 := funext fun j => fr _ _ rfl
  have c1 : ∀ x, x < 102 → shM V M x = V x := fun x hx => sh_c hx
  have c2 : ∀ x, x < 102 → shM V' M' x = V' x := fun x hx => sh_c hx
  have g1 : ∀ j, shM V M 119 j = M 119 (64 + j) - 64 := fun j => sh_3 (Or.inr (Or.inr rfl)) j
  have g2 : ∀ j, shM V' M' 119 j = M' 119 (64 + j) - 64 := fun j => sh_3 (Or.inr (Or.inr rfl)) j
  have ag : agr (shM V M) (shM V' M') f (o0 + c) := fun j hj => by
    refine ⟨⟨?_, ?_, ?_, ?_⟩, fun b hb => ?_⟩
    · rw [g2, g1, hgb, if_neg (by omega)]
    · rw [c2 _ (by omega), c1 _ (by omega), p1, if_neg (by omega)]
    · rw [c2 _ (by omega), c1 _ (by omega), p2, if_neg (by omega)]
    · rw [c2 _ (by omega), c1 _ (by omega), p3, if_neg (by omega)]
    · rw [g1] at hb
      have ne : 64 + b ≠ 64 + a' := fun q => a4 j hj (by omega)
      refine ⟨?_, ?_, ?_, ?_, ?_, ?_⟩
      · rw [sh_k (Or.inl rfl), sh_k (Or.inl rfl), kn']
      · rw [sh_3 (Or.inl rfl), sh_3 (Or.inl rfl), hle _ ne]
      · rw [sh_3 (Or.inr (Or.inl rfl)), sh_3 (Or.inr (Or.inl rfl)), hri _ ne]
      · rw [sh_k (Or.inr (Or.inl rfl)), sh_k (Or.inr (Or.inl rfl)), am']
      · rw [sh_k (Or.inr (Or.inr (Or.inl rfl))), sh_k (Or.inr (Or.inr (Or.inl rfl))), wh']
      · rw [sh_k (Or.inr (Or.inr (Or.inr rfl))), sh_k (Or.inr (Or.inr (Or.inr rfl))), ov']
  obtain ⟨l1, l2⟩ := chn_l c s i5
  refine ⟨⟨⟨by rw [hor]; omega, by rw [p4]; omega⟩, i3, fun j hj => ?_, ⟨a', s, by rw [g2, hgb, if_pos rfl]; omega, by omega, hst, hop, l1, chn_g ag c (Nat.le_refl _) s i5⟩, ⟨hhl, ⟨by rw [hhd, if_pos rfl], hd_g r (fun i hi => by rw [hhd, if_neg (by omega)]) hr⟩, by rw [wt, ← hlen]; rfl⟩, ⟨hwt, p5⟩, fun i hi => by rw [p6, wt]; exact i11 i (by omega), fun i hi q => ?_, by rw [wt]; omega⟩, ag⟩
  · rw [hgb]
    by_cases q : 64 + j = 64 + (o0 + c)
    · rw [if_pos q]
      exact ⟨a', rfl, a2⟩
    · rw [if_neg q]
      exact i4 j (by omega)
  · rw [wt] at q
    obtain ⟨b, b1, b2, b3, b4, b5⟩ := i12 i (by omega) q
    rw [wo, kn', wt]
    refine ⟨b, b1, b2, b3, fun j hj => ?_, b5⟩
    rw [hgb]
    by_cases q2 : 64 + j = 64 + (o0 + c)
    · rw [if_pos q2]
      intro q3
      exact a5 i hi q (by omega)
    · rw [if_neg q2]
      exact b4 j (by omega)
