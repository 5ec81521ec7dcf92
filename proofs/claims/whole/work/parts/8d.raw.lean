/-! RAW, of both -/
theorem wP_e {M M' : zM} (h1 : M' 110 = M 110) (h2 : M' 111 = M 111) (h3 : M' 104 = M 104) (ov hr : Int) (s : Int × Int × Int × Int × Int × Int) (n : Nat) : wP M' ov hr s n = wP M ov hr s n := by
  induction n with
  | zero => rfl
  | succ n ih => unfold wP; rw [ih, h1, h2, h3]
theorem wH_e {M M' : zM} (h1 : M' 110 = M 110) (h2 : M' 111 = M 111) (h3 : M' 104 = M 104) (ov low : Int) (np m : Nat) : wH M' ov low np m = wH M ov low np m := by
  induction m with
  | zero => rfl
  | succ m ih => unfold wH; rw [ih]; simp only [wP_e h1 h2 h3]
/-- what is known in hour k is the same -/
def vEq (M M' : zM) (k : Int) : Prop := (∀ a, kn M' k (M' 102 6).toNat a = kn M k (M 102 6).toNat a) ∧ M' 104 = M 104 ∧ M' 102 4 = M 102 4
/-- the book is the same -/
def bEq (M M' : zM) : Prop := M' 102 32 = M 102 32 ∧ ∀ y, (y = 113 ∨ y = 114 ∨ y = 115 ∨ y = 116 ∨ y = 117 ∨ y = 118 ∨ y = 119 ∨ y = 121 ∨ y = 122 ∨ y = 120) → M' y = M y
theorem whatF_e {M M' : zM} {k : Int} (h : vEq M M' k) (w ov n h0 : Int) : whatF M' k w ov n h0 = whatF M k w ov n h0 := by
  obtain ⟨h1, h2, h3⟩ := h
  unfold whatF
  rw [h3]
  congr 1
  refine wH_e ?_ ?_ ?_ _ _ _ _
  · funext a; rw [mkM_h, mkM_h, h1]
  · funext a; rw [mkM_v, mkM_v, h1]
  · rw [mkM_k, mkM_k, h2]
theorem lineF_e {M M' : zM} {k : Int} (h : vEq M M' k) (hb : bEq M M') (h0 : Int) (l : Nat) : lineF M' k h0 l = lineF M k h0 l := by
  have e := hb.2
  have e1 : M' 113 = M 113 := e _ (by simp)
  have e2 : M' 114 = M 114 := e _ (by simp)
  have e3 : M' 115 = M 115 := e _ (by simp)
  have e4 : M' 116 = M 116 := e _ (by simp)
  have e5 : M' 117 = M 117 := e _ (by simp)
  have e6 : M' 118 = M 118 := e _ (by simp)
  have e7 : M' 119 = M 119 := e _ (by simp)
  have e8 : M' 121 = M 121 := e _ (by simp)
  have e9 : M' 122 = M 122 := e _ (by simp)
  have k1 : ∀ W a, knF M' k h0 W a = knF M k h0 W a := fun W a => by
    unfold knF
    rw [e1, e2, e3, e4, e5, e6, whatF_e h]
  have k2 : ∀ i, lnV M' k h0 l i = lnV M k h0 l i := by
    intro i
    induction i with
    | zero => rfl
    | succ i ih => unfold lnV; rw [ih]; simp only [k1, e7, e8]
  unfold lineF
  rw [e9, k2]
def rwF (M : zM) (h0 k : Int) : Nat → Int
  | 0 => 0
  | l + 1 => if lineF M k h0 l ≠ NV ∧ lineF M k h0 l ≠ 0 ∧ rwF M h0 k l < M 120 l then M 120 l else rwF M h0 k l
def rawF (M : zM) (h0 k : Int) : Int := rwF M h0 k (M 102 32).toNat
theorem rawF_e {M M' : zM} {k : Int} (h : vEq M M' k) (hb : bEq M M') (h0 : Int) : rawF M' h0 k = rawF M h0 k := by
  have e10 : M' 120 = M 120 := hb.2 _ (by simp)
  have k1 : ∀ l, rwF M' h0 k l = rwF M h0 k l := by
    intro l
    induction l with
    | zero => rfl
    | succ l ih => unfold rwF; rw [ih, lineF_e h hb, e10]
  unfold rawF
  rw [hb.1, k1]
/-- the book in force, line by line, is the reference's -/
def rBok (M : zM) : Prop := (∀ j, 3 ≤ j → j ≤ 8 → zR (M 26 j)) ∧ ∀ l : Nat, (l : Int) < M 102 32 → (M ((M 0 2).toNat + 4) l = M 120 l ∧ (1 ≤ M 120 l ∧ M 120 l ≤ 4)) ∧ (∃ st, lnOk M l st) ∧ bkRel M (M 0 2).toNat l
theorem rw_r {M : zM} (hB : rBok M) (h0 k : Int) (l : Nat) (hl : (l : Int) ≤ M 102 32) : 0 ≤ rwF M h0 k l ∧ rwF M h0 k l ≤ 4 := by
  induction l with
  | zero => exact ⟨Int.le_refl _, by show (0 : Int) ≤ 4; omega⟩
  | succ l ih =>
    have ih := ih (by omega)
    have b := (hB.2 l (by omega)).1.2
    unfold rwF
    split <;> omega
theorem raw_r {M : zM} (hB : rBok M) (hl : 0 ≤ M 102 32) (h0 k : Int) : 0 ≤ rawF M h0 k ∧ rawF M h0 k ≤ 4 := rw_r hB h0 k _ (by omega)
theorem lnOk_e {M M' : zM} (hb : bEq M M') {l : Nat} {st : Nat → List Nat} (h : lnOk M l st) : lnOk M' l st := by
  have e := hb.2
  have e1 : M' 113 = M 113 := e _ (by simp)
  have e2 : M' 114 = M 114 := e _ (by simp)
  have e3 : M' 115 = M 115 := e _ (by simp)
  have e4 : M' 116 = M 116 := e _ (by simp)
  have e5 : M' 117 = M 117 := e _ (by simp)
  have e6 : M' 118 = M 118 := e _ (by simp)
  have e7 : M' 119 = M 119 := e _ (by simp)
  have e8 : M' 121 = M 121 := e _ (by simp)
  have e9 : M' 122 = M 122 := e _ (by simp)
  unfold lnOk stp1 at h ⊢
  rw [e1, e2, e3, e4, e5, e6, e7, e8, e9]
  exact h
theorem bkRel_e {M M' : zM} (hb : bEq M M') {f l : Nat} (hf : ∀ i, 1 ≤ i → i ≤ 5 → M' (f + i) = M (f + i)) (h : bkRel M f l) : bkRel M' f l := by
  have e := hb.2
  have e1 : M' 113 = M 113 := e _ (by simp)
  have e4 : M' 116 = M 116 := e _ (by simp)
  have e5 : M' 117 = M 117 := e _ (by simp)
  have e6 : M' 118 = M 118 := e _ (by simp)
  have e7 : M' 119 = M 119 := e _ (by simp)
  have e8 : M' 121 = M 121 := e _ (by simp)
  have e9 : M' 122 = M 122 := e _ (by simp)
  unfold bkRel opRel at h ⊢
  rw [e1, e4, e5, e6, e7, e8, e9, hf 1 (by omega) (by omega), hf 2 (by omega) (by omega), hf 3 (by omega) (by omega), hf 5 (by omega) (by omega)]
  exact h
theorem rBok_e {M M' : zM} (hb : bEq M M') (hbk : M' 0 2 = M 0 2) (hf : ∀ i, 1 ≤ i → i ≤ 5 → M' ((M 0 2).toNat + i) = M ((M 0 2).toNat + i)) (ht : ∀ j, 3 ≤ j → j ≤ 8 → zR (M' 26 j)) (h : rBok M) : rBok M' := by
  have e10 : M' 120 = M 120 := hb.2 _ (by simp)
  refine ⟨ht, fun l hl => ?_⟩
  rw [hb.1] at hl
  obtain ⟨a1, ⟨st, a2⟩, a3⟩ := h.2 l hl
  rw [hbk, e10, hf 4 (by omega) (by omega)]
  exact ⟨a1, ⟨st, lnOk_e hb a2⟩, bkRel_e hb hf a3⟩
theorem bk_id {k : Nat} {M : zM} (hA : RelA k M) : ∃ f : Nat, M 0 2 = (f : Int) ∧ (f = 6 ∨ f = 13) ∧ zIs_6 (f : Int) := by
  obtain ⟨-, -, -, -, -, -, -, -, -, -, -, -, ⟨j0, -⟩, -⟩ := hA
  rcases j0 with j0 | j0
  · exact ⟨6, j0.1, Or.inl rfl, by unfold zIs_6; simp⟩
  · exact ⟨13, j0.1, Or.inr rfl, by unfold zIs_6; simp⟩
/-- what a value of the class may change leaves RelA -/
theorem vFr_all {f : Nat} (hf : f = 6 ∨ f = 13) {M M' : zM} (h : vFr f M M') (x j : Nat) (hd : dAll x j = true) : M' x j = M x j := by
  obtain ⟨h1, h2, -⟩ := h
  have k : ∀ y i, y = x → i = j → dAll y i = false → False := by
    intro y i h1 h2 h3
    subst h1
    subst h2
    rw [hd] at h3
    cases h3
  by_cases q1 : x = f
  · rw [q1]
    refine h2 j (fun q2 => ?_)
    rcases hf with e | e
    · exact k 6 6 (by rw [q1, e]) q2.symm rfl
    · exact k 13 6 (by rw [q1, e]) q2.symm rfl
  · rw [h1 x q1 (fun q2 => ?_) (fun q2 => k 26 j q2.symm rfl rfl)]
    rcases hf with e | e
    · exact k (6 + 6) j (by rw [q2, e]) rfl rfl
    · exact k (13 + 6) j (by rw [q2, e]) rfl rfl
theorem vFr_rel {f k : Nat} (hf : f = 6 ∨ f = 13) {M M' : zM} (h : vFr f M M') (hA : RelA k M) : RelA k M' := by
  refine rel_c (vFr_all hf h) ?_ hA
  obtain ⟨-, -, -, -, -, -, -, -, -, -, -, -, -, hk⟩ := hA
  unfold rKpt at hk ⊢
  have e : M' 0 = M 0 := h.1 _ (by omega) (by omega) (by decide)
  rw [e]
  exact hk
theorem vFr_hi {f : Nat} (hf : f = 6 ∨ f = 13) {M M' : zM} (h : vFr f M M') : ∀ x, 102 ≤ x → M' x = M x := fun x hx => h.1 x (by omega) (by omega) (by omega)
theorem hi_eq {M M' : zM} (h : ∀ x, 102 ≤ x → M' x = M x) : (∀ k, vEq M M' k) ∧ bEq M M' := by
  refine ⟨fun k => ⟨fun a => ?_, h _ (by decide), by rw [h 102 (by decide)]⟩, by rw [h 102 (by decide)], fun y hy => h y (by omega)⟩
  rw [h 102 (by decide)]
  exact kn_congr (h _ (by decide)) (h _ (by decide)) (h _ (by decide)) (h _ (by decide)) (h _ (by decide)) ..
theorem vFr_bok {f : Nat} (hf : f = 6 ∨ f = 13) {M M' : zM} (hbk : M 0 2 = (f : Int)) (h : vFr f M M') (hB : rBok M) : rBok M' := by
  refine rBok_e (hi_eq (vFr_hi hf h)).2 (by rw [h.1 0 (by omega) (by omega) (by decide)]) (fun i i1 i2 => ?_) h.2.2 hB
  rw [hbk, Int.toNat_natCast]
  exact h.1 _ (by omega) (by omega) (by omega)
theorem vFr_t {f : Nat} {M M' M2 : zM} (h : vFr f M M') (h2 : vFr f M' M2) : vFr f M M2 := ⟨fun x a b c => by rw [h2.1 x a b c, h.1 x a b c], fun j hj => by rw [h2.2.1 j hj, h.2.1 j hj], h2.2.2⟩
set_option maxHeartbeats 4000000 in
theorem c_greatest {E : zE} {M : zM} {Q : Int → zM → Prop} {k0 f : Nat} {h0 k : Int} (hA : RelA k0 M) (hB : rBok M) (hbk : M 0 2 = (f : Int)) (ff : f = 6 ∨ f = 13) (hf : zIs_6 (f : Int)) (hh : 0 ≤ h0 ∧ h0 ≤ 99) (hk : zR k)
    (h : ∀ M' : zM, vFr f M M' → Q (rawF M h0 k) M') : zP E mX6_greatestLevel [.inr (.inr (f : Int)), .inr (.inr 20), .inl h0, .inl k] M Q := by
  have hA0 := hA
  obtain ⟨-, -, -, -, hP, hR, -, -, -, -, -, -, ⟨j0, j1, j2, j3, j4, j5, j6⟩, -⟩ := hA
  rw [hbk, Int.toNat_natCast] at j1
  obtain ⟨n, hn⟩ : ∃ n : Nat, M 102 32 = (n : Int) := ⟨(M 102 32).toNat, by omega⟩
  have e0 : (f : Int).toNat = f := Int.toNat_natCast f
  have e4 : ((f : Int) + 4).toNat = f + 4 := by omega
  unfold rawF at h
  rw [hn, Int.toNat_natCast] at h
  refine vcX6_greatestLevel _ _ _ hf (fun m l2 l3 l4 l5 M' => l2 = h0 ∧ l3 = k ∧ ∃ i : Nat, l5 = (i : Int) ∧ i ≤ n ∧ m = 20 - i ∧ l4 = rwF M h0 k i ∧ vFr f M M') ⟨20, rfl, rfl, 0, rfl, by omega, rfl, rfl, ⟨fun _ _ _ _ => rfl, fun _ _ => rfl, hB.1⟩⟩ ?_
  rintro m l2 l3 l4 l5 M' ⟨rfl, rfl, i, rfl, hi, rfl, rfl, hv⟩
  have hi' := vFr_hi ff hv
  obtain ⟨ve, be⟩ := hi_eq hi'
  have e8 : M' f 8 = (n : Int) := by rw [hv.2.1 _ (by decide), j1, hn]
  have rr := rw_r hB l2 l3 i (by omega)
  rw [e0, e8]
  refine ⟨⟨by unfold zR; omega, by unfold zR; omega⟩, fun q => ?_, fun q => ⟨by omega, ?_⟩⟩
  · have : i = n := by omega
    subst this
    exact h M' hv
  · obtain ⟨⟨a1, a1'⟩, ⟨st, a2⟩, a3⟩ := hB.2 i (by omega)
    rw [hbk, Int.toNat_natCast] at a1 a3
    have lev : ∀ M2, vFr f M M2 → M2 (f + 4) i = M 120 i := fun M2 h2 => by rw [h2.1 (f + 4) (by omega) (by omega) (by omega)]; exact a1
    have un : rwF M l2 l3 (i + 1) = if lineF M l3 l2 i ≠ NV ∧ lineF M l3 l2 i ≠ 0 ∧ rwF M l2 l3 i < M 120 i then M 120 i else rwF M l2 l3 i := rfl
    rw [e4, Int.toNat_natCast, lev M' hv]
    have nx : ∀ (x : Int) (M2 : zM), x = rwF M l2 l3 (i + 1) → vFr f M M2 → ∃ n', n' < 20 - i ∧ l2 = l2 ∧ l3 = l3 ∧ ∃ i' : Nat, (i : Int) + 1 = (i' : Int) ∧ i' ≤ n ∧ n' = 20 - i' ∧ x = rwF M l2 l3 i' ∧ vFr f M M2 := fun x M2 hx h2 => ⟨20 - (i + 1), by omega, rfl, rfl, i + 1, by omega, by omega, rfl, hx, h2⟩
    refine ⟨⟨by unfold zR; omega, by unfold zR; omega⟩, fun q2 => nx _ M' (by rw [un, if_neg (fun q3 => by omega)]) hv, fun q2 => ?_⟩
    have hA' := vFr_rel ff hv hA0
    have hA1 := hA'
    obtain ⟨-, -, -, -, hP', hR', -⟩ := hA1
    have lo := lineF_ok (k := l3) (h0 := l2) hR.2.1 hP.2.1 hh a2
    refine c_value hf hR' hP' hv.2.2 hh hk (by omega) (lnOk_e be a2) (bkRel_e be (fun j j1 j2 => hv.1 _ (by omega) (by omega) (by omega)) a3) ?_
    intro M2 v2
    rw [lineF_e (ve l3) be]
    have v2' := vFr_t hv v2
    have lz := okb_L lo
    refine ⟨lz, fun q3 => nx _ M2 (by rw [un, if_neg (fun q4 => q4.2.1 q3)]) v2', fun q3 => ⟨lz, fun q4 => nx _ M2 (by rw [un, if_neg (fun q5 => q5.1 q4)]) v2', fun q4 => ⟨by omega, nx _ M2 ?_ v2'⟩⟩⟩
    rw [lev M2 v2', un, if_pos ⟨q4, q3, q2⟩]
/-- what the reference's values may change -/
def rvFr (M M' : zM) : Prop := ∀ y, y ≠ 110 → y ≠ 111 → y ≠ 127 → M' y = M y
theorem r_lineV {E : zE} {M M1 : zM} {Q : Int → zM → Prop} {k0 : Nat} {k h0 : Int} {l : Nat} (hA : RelA k0 M) (hB : rBok M) (hl : (l : Int) < M 102 32) (hK : knAt M M1 k) (hfr : rvFr M M1) (hh : 0 ≤ h0 ∧ h0 ≤ 99)
    (h : ∀ M' : zM, (∀ x, x ≠ 127 → M' x = M1 x) → Q (lineF M k h0 l) M') : zP E mX12_lineValue [.inr (.inr 102), .inl (l : Int), .inl h0] M1 Q := by
  obtain ⟨-, -, -, -, hP, hR, -, -, -, -, -, -, ⟨j0, j1, j2, j3, j4, j5, j6⟩, -⟩ := hA
  obtain ⟨-, ⟨st, a2⟩, -⟩ := hB.2 l hl
  have e : ∀ y, y ≠ 110 → y ≠ 111 → y ≠ 127 → M1 y = M y := hfr
  refine r_lineValue hR.2.1 hP hK (by omega) hh a2 (by rw [e 102 (by decide) (by decide) (by decide)]) (e _ (by decide) (by decide) (by decide)) (e _ (by decide) (by decide) (by decide)) (e _ (by decide) (by decide) (by decide)) (e _ (by decide) (by decide) (by decide)) (e _ (by decide) (by decide) (by decide)) (e _ (by decide) (by decide) (by decide)) (e _ (by decide) (by decide) (by decide)) (e _ (by decide) (by decide) (by decide)) (e _ (by decide) (by decide) (by decide)) (e _ (by decide) (by decide) (by decide)) h
set_option maxHeartbeats 4000000 in
theorem r_rawOf {E : zE} {M M1 : zM} {Q : Int → zM → Prop} {k0 : Nat} {k h0 : Int} (hA : RelA k0 M) (hB : rBok M) (hfr : ∀ y, y ≠ 110 → y ≠ 111 → y ≠ 127 → y ≠ 155 → y ≠ 154 → y ≠ 102 → M1 y = M y) (hfr2 : ∀ j, j ≠ 2 → M1 102 j = M 102 j) (hh : 0 ≤ h0 ∧ h0 ≤ 99) (hk : zR k)
    (h : ∀ M' : zM, rvFr M1 M' → Q (rawF M h0 k) M') : zP E mX12_rawOf [.inr (.inr 102), .inl h0, .inl k] M1 Q := by
  have hA0 := hA
  obtain ⟨-, -, -, -, hP, hR, -, -, -, -, -, -, ⟨j0, j1, j2, j3, j4, j5, j6⟩, -⟩ := hA
  obtain ⟨n, hn⟩ : ∃ n : Nat, M 102 32 = (n : Int) := ⟨(M 102 32).toNat, by omega⟩
  have g : ∀ y, y ≠ 110 → y ≠ 111 → y ≠ 127 → y ≠ 155 → y ≠ 154 → y ≠ 102 → M1 y = M y := hfr
  have ro1 : rdOk M1 := by
    have := hR.2.1
    unfold rdOk at this ⊢
    rw [hfr2 6 (by decide), g 105 (by decide) (by decide) (by decide) (by decide) (by decide) (by decide), g 106 (by decide) (by decide) (by decide) (by decide) (by decide) (by decide), g 107 (by decide) (by decide) (by decide) (by decide) (by decide) (by decide), g 108 (by decide) (by decide) (by decide) (by decide) (by decide) (by decide), g 109 (by decide) (by decide) (by decide) (by decide) (by decide) (by decide)]
    exact this
  have kne : ∀ a, kn M1 k (M1 102 6).toNat a = kn M k (M 102 6).toNat a := fun a => by
    rw [hfr2 6 (by decide)]
    exact kn_congr (g _ (by decide) (by decide) (by decide) (by decide) (by decide) (by decide)) (g _ (by decide) (by decide) (by decide) (by decide) (by decide) (by decide)) (g _ (by decide) (by decide) (by decide) (by decide) (by decide) (by decide)) (g _ (by decide) (by decide) (by decide) (by decide) (by decide) (by decide)) (g _ (by decide) (by decide) (by decide) (by decide) (by decide) (by decide)) ..
  unfold rawF at h
  rw [hn, Int.toNat_natCast] at h
  refine vcX12_rawOf _ _ (fun m l1 l3 l4 M' => l1 = h0 ∧ ∃ i : Nat, l4 = (i : Int) ∧ i ≤ n ∧ m = 20 - i ∧ l3 = rwF M h0 k i ∧ rvFr M1 M' ∧ knAt M M' k) ?_ ?_
  · refine r_know hk ro1 ?_
    intro M2 f2 k1 k2
    exact ⟨20, rfl, 0, rfl, by omega, rfl, rfl, fun y y1 y2 _ => f2 y y1 y2, fun i hi => by rw [k1 i hi, kne], fun i hi q => by rw [k2 i hi q, kne]⟩
  · rintro m l1 l3 l4 M' ⟨rfl, i, rfl, hi, rfl, rfl, fr', hK⟩
    have et : ∀ j, j ≠ 2 → M' 102 j = M 102 j := fun j hj => by rw [fr' 102 (by decide) (by decide) (by decide)]; exact hfr2 j hj
    have el : ∀ M2, rvFr M1 M2 → M2 120 i = M 120 i := fun M2 h2 => by rw [h2 _ (by decide) (by decide) (by decide), g _ (by decide) (by decide) (by decide) (by decide) (by decide) (by decide)]
    have rr := rw_r hB l1 k i (by omega)
    rw [et 32 (by decide), hn]
    refine ⟨⟨by unfold zR; omega, by unfold zR; omega⟩, fun q => ?_, fun q => ?_⟩
    · have : i = n := by omega
      subst this
      exact h M' fr'
    · obtain ⟨⟨a1, a1'⟩, ⟨st, a2⟩, a3⟩ := hB.2 i (by omega)
      have un : rwF M l1 k (i + 1) = if lineF M k l1 i ≠ NV ∧ lineF M k l1 i ≠ 0 ∧ rwF M l1 k i < M 120 i then M 120 i else rwF M l1 k i := rfl
      have lo := lineF_ok (k := k) (h0 := l1) hR.2.1 hP.2.1 hh a2
      have ge : ∀ y, y ≠ 110 → y ≠ 111 → y ≠ 127 → y ≠ 155 → y ≠ 154 → y ≠ 102 → M' y = M y := fun y y1 y2 y3 y4 y5 y6 => by rw [fr' y y1 y2 y3]; exact g y y1 y2 y3 y4 y5 y6
      refine r_lineValue hR.2.1 hP hK (by omega) hh a2 (et _ (by decide)) (ge _ (by decide) (by decide) (by decide) (by decide) (by decide) (by decide)) (ge _ (by decide) (by decide) (by decide) (by decide) (by decide) (by decide)) (ge _ (by decide) (by decide) (by decide) (by decide) (by decide) (by decide)) (ge _ (by decide) (by decide) (by decide) (by decide) (by decide) (by decide)) (ge _ (by decide) (by decide) (by decide) (by decide) (by decide) (by decide)) (ge _ (by decide) (by decide) (by decide) (by decide) (by decide) (by decide)) (ge _ (by decide) (by decide) (by decide) (by decide) (by decide) (by decide)) (ge _ (by decide) (by decide) (by decide) (by decide) (by decide) (by decide)) (ge _ (by decide) (by decide) (by decide) (by decide) (by decide) (by decide)) (ge _ (by decide) (by decide) (by decide) (by decide) (by decide) (by decide)) ?_
      intro M2 f2
      have fr2 : rvFr M1 M2 := fun y y1 y2 y3 => by rw [f2 y y3]; exact fr' y y1 y2 y3
      have k2 : knAt M M2 k := ⟨fun j hj => by rw [f2 _ (by decide)]; exact hK.1 j hj, fun j hj q2 => by rw [f2 111 (by decide)]; rw [f2 110 (by decide)] at q2; exact hK.2 j hj q2⟩
      have nx : ∀ x : Int, x = rwF M l1 k (i + 1) → ∃ n', n' < 20 - i ∧ l1 = l1 ∧ ∃ i' : Nat, (i : Int) + 1 = (i' : Int) ∧ i' ≤ n ∧ n' = 20 - i' ∧ x = rwF M l1 k i' ∧ rvFr M1 M2 ∧ knAt M M2 k := fun x hx => ⟨20 - (i + 1), by omega, rfl, i + 1, by omega, by omega, rfl, hx, fr2, k2⟩
      have lz := okb_L lo
      rw [Int.toNat_natCast, el M2 fr2]
      refine ⟨lz, fun q3 => nx _ (by rw [un, if_neg (fun q4 => q4.1 q3)]), fun q3 => ⟨lz, fun q4 => nx _ (by rw [un, if_neg (fun q5 => q5.2.1 q4)]), fun q4 => ⟨by omega, ⟨by unfold zR; omega, by unfold zR; omega⟩, fun q5 => nx _ (by rw [un, if_neg (fun q6 => by omega)]), fun q5 => ⟨by omega, nx _ (by rw [un, if_pos ⟨q3, q4, q5⟩])⟩⟩⟩⟩
