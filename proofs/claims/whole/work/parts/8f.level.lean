/-! levels of the reference; pairs: raw, tries, level, warned -/
theorem dV_f {M M1 : zM} (f : ∀ x j, dV x j = false → M1 x j = M x j) : (∀ y, y ≠ 110 → y ≠ 111 → y ≠ 127 → y ≠ 155 → y ≠ 154 → y ≠ 102 → M1 y = M y) ∧ (∀ j, j ≠ 2 → M1 102 j = M 102 j) := by
  refine ⟨fun y y1 y2 y3 y4 y5 y6 => funext fun j => f y j ?_, fun j hj => f _ j ?_⟩
  · unfold dV
    have b : (y == 102) = false := by simpa using y6
    rw [b]
    simp [y1, y2, y3, y4, y5]
  · unfold dV
    have b : [2].contains j = false := by simpa using hj
    rw [b]
    rfl
theorem rv_V {M1 M2 : zM} (h : rvFr M1 M2) : ∀ x j, dV x j = false → M2 x j = M1 x j := fr_ar (A := [110, 111, 127]) (fun y hy => h y (fun q => hy (by rw [q]; simp)) (fun q => hy (by rw [q]; simp)) (fun q => hy (by rw [q]; simp))) (fun y j hy => by
  simp only [List.mem_cons, List.not_mem_nil, or_false] at hy
  rcases hy with hy | hy | hy <;> rw [hy] <;> rfl)
theorem r_rawV {E : zE} {M M1 : zM} {Q : Int → zM → Prop} {k0 : Nat} {k h0 : Int} (hA : RelA k0 M) (hB : rBok M) (f : ∀ x j, dV x j = false → M1 x j = M x j) (hh : 0 ≤ h0 ∧ h0 ≤ 99) (hk : zR k)
    (h : ∀ M' : zM, rvFr M1 M' → (∀ x j, dV x j = false → M' x j = M x j) → Q (rawF M h0 k) M') : zP E mX12_rawOf [.inr (.inr 102), .inl h0, .inl k] M1 Q := by
  obtain ⟨f1, f2⟩ := dV_f f
  exact r_rawOf hA hB f1 f2 hh hk (fun M' hv => h M' hv (fr_t f (rv_V hv)))
set_option maxHeartbeats 4000000 in
theorem r_levelAt {E : zE} {M M1 : zM} {Q : Int → zM → Prop} {k0 n : Nat} (hA : RelA k0 M) (hB : rBok M) (f : ∀ x j, dV x j = false → M1 x j = M x j) (hn : n < 100)
    (h : ∀ M' : zM, (∀ x j, dV x j = false → M' x j = M x j) → Q (lvlF M n) M') : zP E mX12_levelAt [.inr (.inr 102), .inl (n : Int)] M1 Q := by
  obtain ⟨-, -, -, -, -, -, -, -, -, -, -, -, ⟨j0, j1, j2, j3, j4, j5, j6⟩, -⟩ := id hA
  have ek : M1 102 34 = M 102 34 := f 102 34 rfl
  obtain ⟨kp, hkp⟩ : ∃ kp : Nat, M 102 34 = (kp : Int) := ⟨(M 102 34).toNat, by omega⟩
  have rr : ∀ i : Nat, 0 ≤ rawF M (i : Nat) (i : Nat) ∧ rawF M (i : Nat) (i : Nat) ≤ 4 := fun i => raw_r hB j4.1 _ _
  unfold lvlF at h
  rw [hkp, Int.toNat_natCast] at h
  refine vcX12_levelAt _ (fun m l1 l2 l3 M' => l1 = (n : Int) ∧ ∃ i : Nat, l3 = ((n - kp + i : Nat) : Int) ∧ n - kp + i ≤ n + 1 ∧ m = 200 - i ∧ (∀ x j, dV x j = false → M' x j = M x j) ∧ l2 = mxW (fun i => rawF M (i : Nat) (i : Nat)) (n - kp) i) ?_ ?_
  · rw [ek, hkp]
    refine ⟨by unfold zR; omega, fun q => ⟨200 - 0, rfl, 0, by omega, by omega, rfl, f, rfl⟩, fun q => ⟨200 - 0, rfl, 0, by omega, by omega, rfl, f, rfl⟩⟩
  · rintro m l1 l2 l3 M' ⟨rfl, i, rfl, hi, rfl, f', rfl⟩
    have mr := mxW_r rr (n - kp) i
    refine ⟨⟨by unfold zR; omega, by unfold zR; omega⟩, fun q => ?_, fun q => ?_⟩
    · rw [show n + 1 - (n - kp) = i by omega] at h
      exact h M' f'
    · refine r_rawV hA hB f' (by omega) (by unfold zR; omega) ?_
      intro M2 _ f2
      have r2 := rr (n - kp + i)
      have un : mxW (fun i => rawF M (i : Nat) (i : Nat)) (n - kp) (i + 1) = if mxW (fun i => rawF M (i : Nat) (i : Nat)) (n - kp) i < rawF M ((n - kp + i : Nat) : Int) ((n - kp + i : Nat) : Int) then rawF M ((n - kp + i : Nat) : Int) ((n - kp + i : Nat) : Int) else mxW (fun i => rawF M (i : Nat) (i : Nat)) (n - kp) i := rfl
      refine ⟨⟨by unfold zR; omega, by unfold zR; omega⟩, fun q2 => ⟨200 - (i + 1), by omega, rfl, i + 1, by omega, by omega, rfl, f2, by rw [un, if_neg (by omega)]⟩, fun q2 => ⟨200 - (i + 1), by omega, rfl, i + 1, by omega, by omega, rfl, f2, by rw [un, if_pos q2]⟩⟩
set_option maxHeartbeats 8000000 in
theorem r_allLevels {E : zE} {M M1 : zM} {Q : Int → zM → Prop} {k0 : Nat} (hA : RelA k0 M) (hB : rBok M) (f : ∀ x j, dV x j = false → M1 x j = M x j)
    (h : ∀ M' : zM, (∀ x j, dV x j = false → M' x j = M x j) → (∀ n, n < 100 → M' 154 n = lvlF M n) → Q 0 M') : zP E mX12_allLevels [.inr (.inr 102)] M1 Q := by
  obtain ⟨-, -, -, -, -, -, -, -, -, -, -, -, ⟨j0, j1, j2, j3, j4, j5, j6⟩, -⟩ := id hA
  obtain ⟨kp, hkp⟩ : ∃ kp : Nat, M 102 34 = (kp : Int) := ⟨(M 102 34).toNat, by omega⟩
  have rr : ∀ i : Nat, 0 ≤ rawF M (i : Nat) (i : Nat) ∧ rawF M (i : Nat) (i : Nat) ≤ 4 := fun i => raw_r hB j4.1 _ _
  have lv : ∀ n, lvlF M n = mxW (fun i => rawF M (i : Nat) (i : Nat)) (n - kp) (n + 1 - (n - kp)) := fun n => by unfold lvlF; rw [hkp, Int.toNat_natCast]
  refine vcX12_allLevels (fun m l1 M' => ∃ i : Nat, l1 = (i : Int) ∧ i ≤ 100 ∧ m = 50000 - i ∧ (∀ x j, dV x j = false → M' x j = M x j) ∧ (∀ n, n < i → M' 155 n = rawF M (n : Nat) (n : Nat)))
    (fun m l1 M' => ∃ i : Nat, l1 = (i : Int) ∧ i ≤ 100 ∧ m = 40000 - 200 * i ∧ (∀ x j, dV x j = false → M' x j = M x j) ∧ (∀ n, n < 100 → M' 155 n = rawF M (n : Nat) (n : Nat)) ∧ (∀ n, n < i → M' 154 n = lvlF M n))
    (fun m l1 l2 M' => ∃ i c : Nat, l1 = (i : Int) ∧ i < 100 ∧ l2 = ((i - kp + c : Nat) : Int) ∧ i - kp + c ≤ i + 1 ∧ m = 40000 - 200 * i - 1 - c ∧ (∀ x j, dV x j = false → M' x j = M x j) ∧ (∀ n, n < 100 → M' 155 n = rawF M (n : Nat) (n : Nat)) ∧ (∀ n, n < i → M' 154 n = lvlF M n) ∧ M' 154 i = mxW (fun i => rawF M (i : Nat) (i : Nat)) (i - kp) c) ⟨50000 - 0, 0, rfl, by omega, rfl, f, fun n hn => by omega⟩ ?_ ?_ ?_
  · rintro m l1 M' ⟨i, rfl, hi, rfl, f', hr⟩
    refine ⟨by unfold zR; omega, fun q => ⟨40000 - 200 * 0, by omega, 0, rfl, by omega, rfl, f', fun n hn => hr n (by omega), fun n hn => by omega⟩, fun q => ?_⟩
    refine r_rawV hA hB f' (by omega) (by unfold zR; omega) ?_
    intro M2 v2 f2
    refine ⟨by omega, fun M3 h3 => ?_⟩
    rw [Int.toNat_natCast] at h3
    refine ⟨50000 - (i + 1), by omega, i + 1, by omega, by omega, rfl, fr_t f2 (by rw [h3]; exact fr_up (by unfold dV; rfl)), fun n hn => ?_⟩
    rw [h3, zup_a]
    by_cases q2 : n = i
    · rw [q2, up1_s]
    · rw [up1_n _ _ q2, v2 _ (by decide) (by decide) (by decide)]
      exact hr n (by omega)
  · rintro m l1 M' ⟨i, rfl, hi, rfl, f', hr, hl⟩
    refine ⟨by unfold zR; omega, fun q => h M' f' (fun n hn => hl n (by omega)), fun q => ⟨by omega, fun M4 h4 => ?_⟩⟩
    rw [Int.toNat_natCast] at h4
    have f4 : ∀ x j, dV x j = false → M4 x j = M x j := fr_t f' (by rw [h4]; exact fr_up (by unfold dV; rfl))
    have ek : M4 102 34 = (kp : Int) := by rw [f4 102 34 rfl]; exact hkp
    have r4 : ∀ n, n < 100 → M4 155 n = rawF M (n : Nat) (n : Nat) := fun n hn => by rw [h4, zup_ne _ _ _ (by decide)]; exact hr n hn
    have l4 : ∀ n, n < i → M4 154 n = lvlF M n := fun n hn => by rw [h4, zup_a, up1_n _ _ (by omega)]; exact hl n hn
    have s4 : M4 154 i = 0 := by rw [h4, zup_a, up1_s]
    rw [ek]
    refine ⟨by unfold zR; omega, fun q2 => ⟨40000 - 200 * i - 1 - 0, by omega, i, 0, rfl, by omega, by omega, by omega, rfl, f4, r4, l4, s4⟩, fun q2 => ⟨40000 - 200 * i - 1 - 0, by omega, i, 0, rfl, by omega, by omega, by omega, rfl, f4, r4, l4, s4⟩⟩
  · rintro m l1 l2 M' ⟨i, c, rfl, hi, rfl, hc, rfl, f', hr, hl, hs⟩
    have mr := mxW_r rr (i - kp) c
    refine ⟨⟨by unfold zR; omega, by unfold zR; omega⟩, fun q => ?_, fun q => ?_⟩
    · refine ⟨40000 - 200 * (i + 1), by omega, i + 1, by omega, by omega, rfl, f', hr, fun n hn => ?_⟩
      by_cases q2 : n = i
      · rw [q2, hs, lv, show i + 1 - (i - kp) = c by omega]
      · exact hl n (by omega)
    · rw [Int.toNat_natCast, Int.toNat_natCast, hr _ (by omega), hs]
      have r2 := rr (i - kp + c)
      have un : mxW (fun i => rawF M (i : Nat) (i : Nat)) (i - kp) (c + 1) = if mxW (fun i => rawF M (i : Nat) (i : Nat)) (i - kp) c < rawF M ((i - kp + c : Nat) : Int) ((i - kp + c : Nat) : Int) then rawF M ((i - kp + c : Nat) : Int) ((i - kp + c : Nat) : Int) else mxW (fun i => rawF M (i : Nat) (i : Nat)) (i - kp) c := rfl
      have nx : ∀ (x : Int) (M5 : zM), x = mxW (fun i => rawF M (i : Nat) (i : Nat)) (i - kp) (c + 1) → M5 = zup M' 154 i x → ∃ n', n' < 40000 - 200 * i - 1 - c ∧ ∃ i' c' : Nat, (i : Int) = (i' : Int) ∧ i' < 100 ∧ ((i - kp + c : Nat) : Int) + 1 = ((i' - kp + c' : Nat) : Int) ∧ i' - kp + c' ≤ i' + 1 ∧ n' = 40000 - 200 * i' - 1 - c' ∧ (∀ x j, dV x j = false → M5 x j = M x j) ∧ (∀ n, n < 100 → M5 155 n = rawF M (n : Nat) (n : Nat)) ∧ (∀ n, n < i' → M5 154 n = lvlF M n) ∧ M5 154 i' = mxW (fun i => rawF M (i : Nat) (i : Nat)) (i' - kp) c' := by
        intro x M5 hx h5
        refine ⟨40000 - 200 * i - 1 - (c + 1), by omega, i, c + 1, rfl, hi, by omega, by omega, rfl, fr_t f' (by rw [h5]; exact fr_up (by unfold dV; rfl)), fun n hn => by rw [h5, zup_ne _ _ _ (by decide)]; exact hr n hn, fun n hn => by rw [h5, zup_a, up1_n _ _ (by omega)]; exact hl n hn, by rw [h5, zup_a, up1_s]; exact hx⟩
      refine ⟨by omega, by omega, ⟨by unfold zR; omega, by unfold zR; omega⟩, fun q2 => ⟨by omega, by omega, fun M5 h5 => nx _ M5 (by rw [un, if_neg (by omega)]) h5⟩, fun q2 => ⟨by omega, by omega, fun M6 h6 => nx _ M6 (by rw [un, if_pos q2]) h6⟩⟩
/-! pairs -/
/-- what values, levels and warnings may change, of both -/
def dX (x j : Nat) : Bool := dW x j || dV x j
theorem dW_X (x j : Nat) (h : dW x j = true) : dX x j = true := by unfold dX; rw [h]; rfl
theorem dV_X (x j : Nat) (h : dV x j = true) : dX x j = true := by unfold dX; rw [h, Bool.or_true]
theorem V_eq {M M' : zM} (f : ∀ x j, dV x j = false → M' x j = M x j) : (∀ k, vEq M M' k) ∧ bEq M M' := by
  obtain ⟨f1, f2⟩ := dV_f f
  refine ⟨fun k => ⟨fun a => ?_, f1 _ (by decide) (by decide) (by decide) (by decide) (by decide) (by decide), f2 _ (by decide)⟩, f2 _ (by decide), fun y hy => f1 y (by omega) (by omega) (by omega) (by omega) (by omega) (by omega)⟩
  rw [f2 6 (by decide)]
  exact kn_congr (f1 _ (by decide) (by decide) (by decide) (by decide) (by decide) (by decide)) (f1 _ (by decide) (by decide) (by decide) (by decide) (by decide) (by decide)) (f1 _ (by decide) (by decide) (by decide) (by decide) (by decide) (by decide)) (f1 _ (by decide) (by decide) (by decide) (by decide) (by decide) (by decide)) (f1 _ (by decide) (by decide) (by decide) (by decide) (by decide) (by decide)) ..
theorem rRaw_e {M M' : zM} (e : (∀ k, vEq M M' k) ∧ bEq M M') (e1 : M' 0 6 = M 0 6) (e2 : M' 27 = M 27) (h : rRaw M) : rRaw M' := fun j hj => by
  rw [e1] at hj
  rw [rawF_e (e.1 _) e.2, e2]
  exact h j hj
theorem wfF_e {M M' : zM} (e : (∀ k, vEq M M' k) ∧ bEq M M') (e1 : M' 145 = M 145) (e2 : M' 146 = M 146) (p : Nat) : wfF M' p = wfF M p := by
  unfold wfF
  rw [e1, e2]
  congr 1
  funext j
  rw [rawF_e (e.1 _) e.2]
theorem rWrn_e {M M' : zM} (e : (∀ k, vEq M M' k) ∧ bEq M M') (e1 : M' 145 = M 145) (e2 : M' 146 = M 146) (e3 : M' 102 69 = M 102 69) (e4 : M' 142 = M 142) (e5 : M' 0 7 = M 0 7) (e6 : M' 50 = M 50) (h : rWrn M) : rWrn M' := fun hn p hp q => by
  rw [e5] at hn
  rw [e3] at hp
  rw [e4] at q
  rw [wfF_e e e1 e2, e6]
  exact h hn p hp q
/-- the whole of what is kept of values and warnings -/
def vCch (M : zM) : Prop := rBok M ∧ rRaw M ∧ rWrn M
theorem V_cch {k : Nat} {M M' : zM} (hA : RelA k M) (f : ∀ x j, dV x j = false → M' x j = M x j) (h : vCch M) : vCch M' := by
  have e := V_eq f
  obtain ⟨f1, f2⟩ := dV_f f
  obtain ⟨bf, hbk, ff, -⟩ := bk_id hA
  refine ⟨rBok_e e.2 (f 0 2 rfl) (fun i i1 i2 => f1 _ (by omega) (by omega) (by omega) (by omega) (by omega) (by omega)) (fun j j1 j2 => by rw [f 26 j rfl]; exact h.1.1 j j1 j2) h.1, rRaw_e e (f _ _ rfl) (funext fun j => f _ j rfl) h.2.1, rWrn_e e (funext fun j => f _ j rfl) (funext fun j => f _ j rfl) (f 102 69 rfl) (funext fun j => f _ j rfl) (f _ _ rfl) (funext fun j => f _ j rfl) h.2.2⟩
theorem dV_all (x j : Nat) (h : dAll x j = true) : dV x j = false := by
  cases hd : dV x j with
  | false => rfl
  | true =>
    exfalso
    simp only [dV, Bool.or_eq_true, Bool.and_eq_true, beq_iff_eq, List.contains_cons, List.contains_nil, Bool.or_false] at hd
    have k : ∀ y i, y = x → i = j → dAll y i = false → False := by
      intro y i h1 h2 h3
      subst h1
      subst h2
      rw [h] at h3
      cases h3
    rcases hd with (hd|hd|hd|hd|hd)|⟨hd, h2⟩
    all_goals first | exact k _ j hd.symm rfl rfl | exact k _ _ hd.symm h2.symm rfl
theorem V_rel {k : Nat} {M M' : zM} (hA : RelA k M) (f : ∀ x j, dV x j = false → M' x j = M x j) : RelA k M' := by
  refine rel_c (fun x j hx => f x j (dV_all x j hx)) ?_ hA
  have kp := hA.2.2.2.2.2.2.2.2.2.2.2.2.2
  unfold rKpt at kp ⊢
  rw [f 0 6 rfl, f 0 7 rfl]
  exact kp
/-- what a value of the class leaves -/
theorem vF_cch {k f : Nat} {M M' : zM} (hA : RelA k M) (hbk : M 0 2 = (f : Int)) (ff : f = 6 ∨ f = 13) (hv : vFr f M M') (h : vCch M) : RelA k M' ∧ vCch M' ∧ (∀ x j, dX x j = false → M' x j = M x j) := by
  have hi := vFr_hi ff hv
  have e := hi_eq hi
  refine ⟨vFr_rel ff hv hA, ⟨vFr_bok ff hbk hv h.1, rRaw_e e (by rw [hv.1 0 (by omega) (by omega) (by decide)]) (hv.1 _ (by omega) (by omega) (by decide)) h.2.1, rWrn_e e (hi _ (by decide)) (hi _ (by decide)) (by rw [hi 102 (by decide)]) (hi _ (by decide)) (by rw [hv.1 0 (by omega) (by omega) (by decide)]) (hv.1 _ (by omega) (by omega) (by decide)) h.2.2⟩, fr_sub dW_X (fr_sub dE_W (vFr_E ff hv))⟩
theorem q_raw {E : zE} {k0 : Nat} {M : zM} {P' : zM → Prop} {hr k : Int} (hA : RelA k0 M) (hc : vCch M) (h1 : zR hr) (h2 : zR k)
    (h : ∀ M' : zM, RelA k0 M' → vCch M' → (∀ x j, dX x j = false → M' x j = M x j) → P' M') : zPP E mX11_raw mX12_raw [.inl hr, .inl k] M P' := by
  obtain ⟨f, hbk, ff, hf⟩ := bk_id hA
  have j4 := hA.2.2.2.2.2.2.2.2.2.2.2.2.1.2.2.2.2.1
  have ref : ∀ (M1 : zM) (v : Int), RelA k0 M1 → vCch M1 → (∀ x j, dX x j = false → M1 x j = M x j) → zR v → v = (if (0 ≤ hr ∧ hr ≤ 99) ∧ (0 ≤ k ∧ k ≤ 99) then rawF M1 hr k else -1) → zP E mX12_raw [.inr (.inr 102), .inl hr, .inl k] M1 (fun r2 M2 => (zR v ∧ zR r2) ∧ v = r2 ∧ P' M2) := by
    intro M1 v hA1 hc1 f1 zv hv
    refine vcX12_raw _ _ ?_
    intro M2 h2'
    have f2 : ∀ x j, dV x j = false → M2 x j = M1 x j := by rw [h2']; exact fr_up rfl
    have fin : ∀ M3, (∀ x j, dV x j = false → M3 x j = M1 x j) → P' M3 := fun M3 f3 => h M3 (V_rel hA1 f3) (V_cch hA1 f3 hc1) (fr_t f1 (fr_sub dV_X f3))
    refine r_isHour h1 ?_
    by_cases g1 : 0 ≤ hr ∧ hr ≤ 99
    · rw [if_pos g1]
      refine ⟨zRd rfl, fun q => absurd q (by decide), fun _ => ?_⟩
      refine r_isHour h2 ?_
      by_cases g2 : 0 ≤ k ∧ k ≤ 99
      · rw [if_pos g2]
        rw [if_pos ⟨g1, g2⟩] at hv
        refine ⟨zRd rfl, fun q => absurd q (by decide), fun _ => ?_⟩
        refine r_rawV hA1 hc1.1 f2 g1 h2 (fun M3 _ f3 => ?_)
        rw [← hv]
        exact q_end zv (fin M3 f3)
      · rw [if_neg g2]
        rw [if_neg (fun q => g2 q.2)] at hv
        subst hv
        exact ⟨zRd rfl, fun _ => q_end zv (fin M2 f2), fun q => absurd rfl q⟩
    · rw [if_neg g1]
      rw [if_neg (fun q => g1 q.1)] at hv
      subst hv
      exact ⟨zRd rfl, fun _ => q_end zv (fin M2 f2), fun q => absurd rfl q⟩
  refine vcX11_raw _ _ ?_
  refine c_isHour h1 ?_
  by_cases g1 : 0 ≤ hr ∧ hr ≤ 99
  · rw [if_pos g1]
    refine ⟨zRd rfl, fun q => absurd q (by decide), fun _ => ?_⟩
    refine c_isHour h2 ?_
    by_cases g2 : 0 ≤ k ∧ k ≤ 99
    · rw [if_pos g2]
      refine ⟨zRd rfl, fun _ => ?_, fun q => absurd q (by decide)⟩
      rw [hbk]
      refine ⟨hf, ?_⟩
      refine c_greatest hA hc.1 hbk ff hf g1 h2 ?_
      intro M1 hv
      obtain ⟨a1, a2, a3⟩ := vF_cch hA hbk ff hv hc
      have rr := raw_r hc.1 j4.1 hr k
      have e := hi_eq (vFr_hi ff hv)
      exact ref M1 _ a1 a2 a3 (by unfold zR; omega) (by rw [if_pos ⟨g1, g2⟩, rawF_e (e.1 _) e.2])
    · rw [if_neg g2]
      exact ⟨zRd rfl, fun q => absurd rfl q, fun _ => ref M _ hA hc (fun _ _ _ => rfl) (zRd rfl) (by rw [if_neg (fun q => g2 q.2)])⟩
  · rw [if_neg g1]
    exact ⟨zRd rfl, fun _ => ref M _ hA hc (fun _ _ _ => rfl) (zRd rfl) (by rw [if_neg (fun q => g1 q.1)]), fun q => absurd rfl q⟩
