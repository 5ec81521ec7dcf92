/-! levels and warnings, of both -/
/-- what the class's values may change -/
def dE (x j : Nat) : Bool := [12, 19, 26, 27].contains x || ([6, 13].contains x && [6].contains j) || (x == 0 && [6].contains j)
/-- and its warnings -/
def dW (x j : Nat) : Bool := dE x j || [50].contains x || (x == 0 && [7].contains j)
/-- what the reference's values and levels may change -/
def dV (x j : Nat) : Bool := [110, 111, 127, 154, 155].contains x || (x == 102 && [2].contains j)
theorem no_all {d : Nat → Nat → Bool} {x j : Nat} (h : dAll x j = true) (hd : d x j = true) (k : ∀ y i, d y i = true → dAll y i = true → False) : False := k x j hd h
theorem dW_all (x j : Nat) (h : dAll x j = true) : dW x j = false := by
  cases hd : dW x j with
  | false => rfl
  | true =>
    exfalso
    simp only [dW, dE, Bool.or_eq_true, Bool.and_eq_true, beq_iff_eq, List.contains_cons, List.contains_nil, Bool.or_false] at hd
    have k : ∀ y i, y = x → i = j → dAll y i = false → False := by
      intro y i h1 h2 h3
      subst h1
      subst h2
      rw [h] at h3
      cases h3
    rcases hd with ((((hd|hd|hd|hd)|⟨(hd|hd), h2⟩)|⟨hd, h2⟩)|hd)|⟨hd, h2⟩
    all_goals first | exact k _ j hd.symm rfl rfl | exact k _ _ hd.symm h2.symm rfl
theorem dE_W (x j : Nat) (h : dE x j = true) : dW x j = true := by unfold dW; rw [h]; rfl
theorem dW_hi (x j : Nat) (hx : 102 ≤ x) : dW x j = false := by
  cases hd : dW x j with
  | false => rfl
  | true =>
    exfalso
    simp only [dW, dE, Bool.or_eq_true, Bool.and_eq_true, beq_iff_eq, List.contains_cons, List.contains_nil, Bool.or_false] at hd
    omega
theorem vFr_E {f : Nat} (hf : f = 6 ∨ f = 13) {M M' : zM} (h : vFr f M M') : ∀ x j, dE x j = false → M' x j = M x j := by
  intro x j hd
  obtain ⟨h1, h2, -⟩ := h
  have k : ∀ y i, y = x → i = j → dE y i = true → False := by
    intro y i h1 h2 h3
    subst h1
    subst h2
    rw [hd] at h3
    cases h3
  by_cases q1 : x = f
  · rw [q1]
    refine h2 j (fun q2 => ?_)
    rcases hf with e | e
    · exact k 6 6 (by rw [q1, e]) q2.symm rfl
    · exact k 13 6 (by rw [q1, e]) q2.symm rfl
  · rw [h1 x q1 (fun q2 => ?_) (fun q2 => k 26 j q2.symm rfl rfl)]
    rcases hf with e | e
    · exact k (6 + 6) j (by rw [q2, e]) rfl rfl
    · exact k (13 + 6) j (by rw [q2, e]) rfl rfl
def tlOk (M : zM) : Prop := ∀ j, 3 ≤ j → j ≤ 8 → zR (M 26 j)
theorem W_hi {M M' : zM} (h : ∀ x j, dW x j = false → M' x j = M x j) : ∀ x, 102 ≤ x → M' x = M x := fun x hx => funext fun j => h x j (dW_hi x j hx)
theorem W_bok {k : Nat} {M M' : zM} (hA : RelA k M) (h : ∀ x j, dW x j = false → M' x j = M x j) (ht : tlOk M') (hB : rBok M) : rBok M' := by
  obtain ⟨f, hbk, ff, -⟩ := bk_id hA
  refine rBok_e (hi_eq (W_hi h)).2 (h 0 2 rfl) (fun i i1 i2 => ?_) ht hB
  rw [hbk, Int.toNat_natCast]
  have : i = 1 ∨ i = 2 ∨ i = 3 ∨ i = 4 ∨ i = 5 := by omega
  rcases ff with e | e <;> rw [e] <;> rcases this with e2 | e2 | e2 | e2 | e2 <;> rw [e2] <;> exact funext fun j => h _ j rfl
theorem W_rel {k : Nat} {M M' : zM} (hA : RelA k M) (h : ∀ x j, dW x j = false → M' x j = M x j) (hk : rKpt M') : RelA k M' := rel_c (fun x j hx => h x j (dW_all x j hx)) hk hA
def rRaw (M : zM) : Prop := ∀ h : Nat, (h : Int) < M 0 6 → M 27 h = rawF M h h
def wfF (M : zM) (p : Nat) : Int := wat (fun h => rawF M (h : Nat) (h : Nat)) (M 145 p) (M 146 p) 0 100
def rWrn (M : zM) : Prop := M 0 7 = 1 → ∀ p : Nat, (p : Int) < M 102 69 → M 142 p = 1 → M 50 p = wfF M p
set_option maxHeartbeats 4000000 in
theorem c_rawOwn {E : zE} {M : zM} {Q : Int → zM → Prop} {k0 n : Nat} (hA : RelA k0 M) (hB : rBok M) (hr : rRaw M) (hn : n < 100)
    (h : ∀ M' : zM, (∀ x j, dE x j = false → M' x j = M x j) → tlOk M' → (0 ≤ M' 0 6 ∧ M' 0 6 ≤ 100) → rRaw M' → Q (rawF M n n) M') : zP E mX11_rawInOwnHour [.inr (.inr 0), .inl (n : Int)] M Q := by
  obtain ⟨f, hbk, ff, hf⟩ := bk_id hA
  have kp := hA.2.2.2.2.2.2.2.2.2.2.2.2.2
  refine vcX11_rawInOwnHour _ (fun m l1 l2 M' => l1 = (n : Int) ∧ M' 0 6 = l2 ∧ (0 ≤ l2 ∧ l2 ≤ 100) ∧ m = (101 - l2).toNat ∧ (∀ x j, dE x j = false → M' x j = M x j) ∧ tlOk M' ∧ rRaw M') ⟨_, rfl, rfl, kp.1, rfl, fun _ _ _ => rfl, hB.1, hr⟩ ?_
  rintro m l1 l2 M' ⟨rfl, rk, hl, rfl, fr', ht, hr'⟩
  have frW : ∀ x j, dW x j = false → M' x j = M x j := fr_sub dE_W fr'
  have hi' := W_hi frW
  obtain ⟨ve, be⟩ := hi_eq hi'
  have hA' : RelA k0 M' := W_rel hA frW ⟨by rw [rk]; exact hl, by rw [fr' 0 7 rfl]; exact kp.2⟩
  have hB' := W_bok hA frW ht hB
  have eb : M' 0 2 = (f : Int) := by rw [fr' 0 2 rfl]; exact hbk
  refine ⟨⟨by unfold zR; omega, by unfold zR; omega⟩, fun q => ⟨by omega, ?_⟩, fun q => ?_⟩
  · rw [Int.toNat_natCast, hr' n (by omega), rawF_e (ve _) be]
    exact h M' fr' ht (by rw [rk]; exact hl) hr'
  · obtain ⟨i, hi⟩ : ∃ i : Nat, l2 = (i : Int) := ⟨l2.toNat, by omega⟩
    subst hi
    rw [eb]
    refine ⟨hf, ?_⟩
    refine c_greatest hA' hB' eb ff hf (by omega) (by unfold zR; omega) ?_
    intro M3 v3
    refine ⟨by omega, fun M4 h4 M5 h5 => ?_⟩
    rw [Int.toNat_natCast] at h4
    have f3 := vFr_E ff v3
    have f4 : ∀ x j, dE x j = false → M4 x j = M3 x j := by rw [h4]; exact fr_up (by unfold dE; rfl)
    have f5 : ∀ x j, dE x j = false → M5 x j = M4 x j := by rw [h5]; exact fr_up rfl
    have fr5 := fr_t (fr_t (fr_t fr' f3) f4) f5
    have t5 : tlOk M5 := fun j j1 j2 => by
      rw [h5, zup_ne _ _ _ (by decide), h4, zup_ne _ _ _ (by decide)]
      exact v3.2.2 j j1 j2
    obtain ⟨ve5, be5⟩ := hi_eq (W_hi (fr_sub dE_W fr5))
    have rk5 : M5 0 6 = (i : Int) + 1 := by rw [h5, zup_a, up1_s]
    refine ⟨(101 - ((i : Int) + 1)).toNat, by omega, rfl, rk5, by omega, rfl, fr5, t5, fun j hj => ?_⟩
    rw [rk5] at hj
    rw [rawF_e (ve5 _) be5, h5, zup_ne _ _ _ (by decide), h4, zup_a]
    by_cases q2 : j = i
    · rw [q2, up1_s, rawF_e (ve _) be]
    · rw [up1_n _ _ q2, v3.1 27 (by omega) (by omega) (by decide), hr' j (by omega), rawF_e (ve _) be]
/-- the greatest of n from lo on -/
def mxW (g : Nat → Int) (lo : Nat) : Nat → Int
  | 0 => 0
  | n + 1 => if mxW g lo n < g (lo + n) then g (lo + n) else mxW g lo n
def lvlF (M : zM) (h : Nat) : Int := mxW (fun i => rawF M (i : Nat) (i : Nat)) (h - (M 102 34).toNat) (h + 1 - (h - (M 102 34).toNat))
theorem mxW_r {g : Nat → Int} (hg : ∀ i, 0 ≤ g i ∧ g i ≤ 4) (lo n : Nat) : 0 ≤ mxW g lo n ∧ mxW g lo n ≤ 4 := by
  induction n with
  | zero => exact ⟨Int.le_refl _, by show (0 : Int) ≤ 4; omega⟩
  | succ n ih =>
    have := hg (lo + n)
    unfold mxW
    split <;> omega
theorem mxW_ge {g : Nat → Int} {t : Int} (ht : 1 ≤ t) (lo n : Nat) : t ≤ mxW g lo n ↔ ∃ i, lo ≤ i ∧ i < lo + n ∧ t ≤ g i := by
  induction n with
  | zero => exact ⟨fun h => absurd h (by show ¬ t ≤ 0; omega), fun ⟨i, a, b, _⟩ => by omega⟩
  | succ n ih =>
    have un : mxW g lo (n + 1) = if mxW g lo n < g (lo + n) then g (lo + n) else mxW g lo n := rfl
    rw [un]
    constructor
    · intro h
      by_cases q : mxW g lo n < g (lo + n)
      · rw [if_pos q] at h
        exact ⟨lo + n, by omega, by omega, h⟩
      · rw [if_neg q] at h
        obtain ⟨i, a, b, c⟩ := ih.mp h
        exact ⟨i, a, by omega, c⟩
    · rintro ⟨i, a, b, c⟩
      by_cases q2 : i = lo + n
      · subst q2
        split <;> omega
      · have := ih.mpr ⟨i, a, by omega, c⟩
        split <;> omega
theorem wat_mx {g lv : Nat → Int} {t l : Int} {kp : Nat} (ht : 1 ≤ t) (hlv : ∀ h, h < 100 → lv h = mxW g (h - kp) (h + 1 - (h - kp))) (i n : Nat) (hin : i + n ≤ 100) (hb : ∀ j, j < i → g j < t) : wat lv t l i n = wat g t l i n := by
  induction n generalizing i with
  | zero => rfl
  | succ n ih =>
    have un : ∀ f : Nat → Int, wat f t l i (n + 1) = if t ≤ f i then (i : Int) + l else wat f t l (i + 1) n := fun _ => rfl
    rw [un, un]
    have e : (t ≤ lv i) ↔ (t ≤ g i) := by
      rw [hlv i (by omega), mxW_ge ht]
      constructor
      · rintro ⟨j, a, b, c⟩
        by_cases q : j = i
        · rw [← q]; exact c
        · have := hb j (by omega)
          omega
      · intro c
        exact ⟨i, by omega, by omega, c⟩
    by_cases q : t ≤ g i
    · rw [if_pos q, if_pos (e.mpr q)]
    · rw [if_neg q, if_neg (fun r => q (e.mp r))]
      exact ih (i + 1) (by omega) (fun j hj => by
        by_cases q2 : j = i
        · rw [q2]; omega
        · exact hb j (by omega))
theorem wat_snoc {lv : Nat → Int} {t l : Int} (hl : 0 ≤ l) (i n : Nat) : wat lv t l i (n + 1) = if wat lv t l i n = -1 then (if t ≤ lv (i + n) then ((i + n : Nat) : Int) + l else -1) else wat lv t l i n := by
  induction n generalizing i with
  | zero => rfl
  | succ n ih =>
    have un : ∀ m, wat lv t l i (m + 1) = if t ≤ lv i then (i : Int) + l else wat lv t l (i + 1) m := fun _ => rfl
    rw [un (n + 1), un n]
    by_cases q : t ≤ lv i
    · rw [if_pos q, if_pos q, if_neg (by omega)]
    · rw [if_neg q, if_neg q, ih (i + 1), show i + 1 + n = i + (n + 1) by omega]
theorem wat_stop {lv : Nat → Int} {t l : Int} (hl : 0 ≤ l) (i n k : Nat) (h : wat lv t l i n ≠ -1) : wat lv t l i (n + k) = wat lv t l i n := by
  induction k with
  | zero => rfl
  | succ k ih => rw [← Nat.add_assoc, wat_snoc hl, ih, if_neg h]
theorem c_someUnwarned {E : zE} {M : zM} {Q : Int → zM → Prop} {P : Nat} (hP : M 44 6 = (P : Int)) (P8 : P ≤ 8) (hc : ∀ i, zR (M 45 i)) (hw : ∀ i, i < P → M 45 i ≠ -1 → zR (M 50 i)) (h0 : (∀ p, p < P → M 45 p ≠ -1 → M 50 p ≠ -1) → Q 0 M) (h1 : Q 1 M) : zP E mX3_someUnwarned [.inr (.inr 44)] M Q := by
  refine vcX3_someUnwarned (fun m l1 M' => M' = M ∧ ∃ i : Nat, l1 = (i : Int) ∧ i ≤ P ∧ m = 10 - i ∧ ∀ p, p < i → M 45 p ≠ -1 → M 50 p ≠ -1) ⟨10, rfl, 0, rfl, by omega, rfl, fun p hp => by omega⟩ ?_
  rintro m l1 M' ⟨rfl, i, rfl, hi, rfl, hp⟩
  rw [hP, Int.toNat_natCast]
  have nx : (M' 45 i ≠ -1 → M' 50 i ≠ -1) → i < P → ∃ n', n' < 10 - i ∧ M' = M' ∧ ∃ i' : Nat, (i : Int) + 1 = (i' : Int) ∧ i' ≤ P ∧ n' = 10 - i' ∧ ∀ p, p < i' → M' 45 p ≠ -1 → M' 50 p ≠ -1 := fun hx hl => ⟨10 - (i + 1), by omega, rfl, i + 1, by omega, by omega, rfl, fun p hp' => by
    by_cases q : p = i
    · rw [q]; exact hx
    · exact hp p (by omega)⟩
  refine ⟨⟨by unfold zR; omega, by unfold zR; omega⟩, fun q => ?_, fun q => ⟨by omega, hc i, fun q2 => nx (fun q3 => absurd q2 q3) (by omega), fun q2 => ⟨by omega, hw i (by omega) q2, fun q3 => nx (fun _ => q3) (by omega), fun q3 => h1⟩⟩⟩
  have : i = P := by omega
  subst this
  exact h0 hp
theorem c_warn {E : zE} {M : zM} {Q : Int → zM → Prop} {P : Nat} {hr lv : Int} (hP : M 44 6 = (P : Int)) (P8 : P ≤ 8) (hl : zR lv) (hc : ∀ i, zR (M 45 i)) (hw : ∀ i, i < P → M 45 i ≠ -1 → zR (M 50 i) ∧ zR (M 47 i))
    (h : ∀ M' : zM, (∀ y, y ≠ 50 → M' y = M y) → (∀ p, p < P → M 45 p ≠ -1 → M' 50 p = if M 50 p = -1 ∧ M 47 p ≤ lv then hr + M 48 p else M 50 p) → Q 0 M') : zP E mX3_warn [.inr (.inr 44), .inl hr, .inl lv] M Q := by
  refine vcX3_warn _ _ (fun m l1 l2 l3 M' => l1 = hr ∧ l2 = lv ∧ ∃ i : Nat, l3 = (i : Int) ∧ i ≤ P ∧ m = 10 - i ∧ (∀ y, y ≠ 50 → M' y = M y) ∧ (∀ p, i ≤ p → M' 50 p = M 50 p) ∧ ∀ p, p < i → M 45 p ≠ -1 → M' 50 p = if M 50 p = -1 ∧ M 47 p ≤ lv then hr + M 48 p else M 50 p) ⟨10, rfl, rfl, 0, rfl, by omega, rfl, fun _ _ => rfl, fun _ _ => rfl, fun p hp => by omega⟩ ?_
  rintro m l1 l2 l3 M' ⟨rfl, rfl, i, rfl, hi, rfl, fr', hge, hp⟩
  rw [fr' 44 (by decide), fr' 45 (by decide), fr' 47 (by decide), fr' 48 (by decide), hP, Int.toNat_natCast, hge i (Nat.le_refl _)]
  have nx : (M 45 i ≠ -1 → ¬ (M 50 i = -1 ∧ M 47 i ≤ l2)) → i < P → ∃ n', n' < 10 - i ∧ l1 = l1 ∧ l2 = l2 ∧ ∃ i' : Nat, (i : Int) + 1 = (i' : Int) ∧ i' ≤ P ∧ n' = 10 - i' ∧ (∀ y, y ≠ 50 → M' y = M y) ∧ (∀ p, i' ≤ p → M' 50 p = M 50 p) ∧ ∀ p, p < i' → M 45 p ≠ -1 → M' 50 p = if M 50 p = -1 ∧ M 47 p ≤ l2 then l1 + M 48 p else M 50 p := fun hx hl => ⟨10 - (i + 1), by omega, rfl, rfl, i + 1, by omega, by omega, rfl, fr', fun p hp' => hge p (by omega), fun p hp' q => by
    by_cases q2 : p = i
    · rw [q2, hge i (Nat.le_refl _), if_neg (hx (by rw [← q2]; exact q))]
    · exact hp p (by omega) q⟩
  refine ⟨⟨by unfold zR; omega, by unfold zR; omega⟩, fun q => ?_, fun q => ⟨by omega, hc i, fun q2 => nx (fun q3 => absurd q2 q3) (by omega), fun q2 => ⟨by omega, (hw i (by omega) q2).1, fun q3 => nx (fun _ q4 => q3 q4.1) (by omega), fun q3 => ⟨by omega, ⟨hl, (hw i (by omega) q2).2⟩, fun q4 => nx (fun _ q5 => by omega) (by omega), fun q4 => ⟨by omega, by omega, fun M1 h1 => ?_⟩⟩⟩⟩⟩
  · have : i = P := by omega
    subst this
    exact h M' fr' hp
  · refine ⟨10 - (i + 1), by omega, rfl, rfl, i + 1, by omega, by omega, rfl, fun y hy => by rw [h1, zup_ne _ _ _ hy]; exact fr' y hy, fun p hp' => ?_, fun p hp' q5 => ?_⟩
    · rw [h1, zup_a, up1_n _ _ (by omega)]
      exact hge p (by omega)
    · rw [h1, zup_a]
      by_cases q6 : p = i
      · rw [q6, up1_s, if_pos ⟨q3, q4⟩]
      · rw [up1_n _ _ q6]
        exact hp p (by omega) q5
set_option maxHeartbeats 8000000 in
theorem c_noteWarnings {E : zE} {M : zM} {Q : Int → zM → Prop} {k0 : Nat} (hA : RelA k0 M) (hB : rBok M) (hr : rRaw M) (hw : rWrn M)
    (h : ∀ M' : zM, (∀ x j, dW x j = false → M' x j = M x j) → tlOk M' → rKpt M' → rRaw M' → M' 0 7 = 1 → rWrn M' → Q 0 M') : zP E mX11_noteWarnings [.inr (.inr 0)] M Q := by
  have hA0 := hA
  obtain ⟨-, -, -, -, -, -, -, -, -, ⟨p1, p2, p3, p4⟩, -, -, ⟨j0, j1, j2, j3, j4, j5, j6⟩, kp⟩ := hA
  obtain ⟨P, hP⟩ : ∃ P : Nat, M 102 69 = (P : Int) := ⟨(M 102 69).toNat, by omega⟩
  have town : ∀ p, p < P → M 45 p ≠ -1 → M 142 p = 1 ∧ M 47 p = M 145 p ∧ M 48 p = M 146 p ∧ (1 ≤ M 145 p ∧ M 145 p ≤ 4) ∧ (0 ≤ M 146 p ∧ M 146 p ≤ 5) := fun p hp q => by
    rcases p3 p (by omega) with ⟨a1, a2, a3, a4, a5, a6, a7, a8, a9, a10⟩ | ⟨a1, a2, -⟩
    · exact ⟨a1, a4, a5, a9, a10⟩
    · exact absurd a2 q
  have town2 : ∀ p, p < P → M 142 p = 1 → M 45 p ≠ -1 := fun p hp q => by
    rcases p3 p (by omega) with ⟨a1, a2, a3, a4, a5, a6, a7, a8, a9, a10⟩ | ⟨a1, a2, -⟩
    · omega
    · omega
  have wt : ∀ p, p < P → M 45 p ≠ -1 → ∀ i, i ≤ 100 → wat (fun h => rawF M (h : Nat) (h : Nat)) (M 145 p) (M 146 p) 0 i = -1 ∨ (0 ≤ wat (fun h => rawF M (h : Nat) (h : Nat)) (M 145 p) (M 146 p) 0 i ∧ wat (fun h => rawF M (h : Nat) (h : Nat)) (M 145 p) (M 146 p) 0 i ≤ 104) := fun p hp q i hi => by
    have := wat_r (lv := fun h => rawF M (h : Nat) (h : Nat)) (t := M 145 p) (town p hp q).2.2.2.2 0 i
    omega
  have fin : ∀ M3 M6 : zM, (∀ x j, dW x j = false → M3 x j = M x j) → tlOk M3 → (0 ≤ M3 0 6 ∧ M3 0 6 ≤ 100) → rRaw M3 → (∀ p, p < P → M 45 p ≠ -1 → M3 50 p = wat (fun h => rawF M (h : Nat) (h : Nat)) (M 145 p) (M 146 p) 0 100) → M6 = zup M3 0 7 1 → Q 0 M6 := by
    intro M3 M6 f3 t3 k3 r3 w3 h6
    have f6 : ∀ x j, dW x j = false → M6 x j = M3 x j := by rw [h6]; exact fr_up rfl
    have fr6 := fr_t f3 f6
    have rk6 : M6 0 6 = M3 0 6 := by rw [h6, zup_a, up1_n _ _ (by decide)]
    have wn6 : M6 0 7 = 1 := by rw [h6, zup_a, up1_s]
    have hi6 := W_hi fr6
    obtain ⟨ve6, be6⟩ := hi_eq hi6
    obtain ⟨ve3, be3⟩ := hi_eq (W_hi f3)
    refine h M6 fr6 (fun j j1 j2 => by rw [h6, zup_ne _ _ _ (by decide)]; exact t3 j j1 j2) ⟨by rw [rk6]; exact k3, Or.inr wn6⟩ (fun j hj => ?_) wn6 (fun _ p hp q => ?_)
    · rw [rk6] at hj
      rw [rawF_e (ve6 _) be6, h6, zup_ne _ _ _ (by decide), r3 j hj, rawF_e (ve3 _) be3]
    · rw [hi6 102 (by decide)] at hp
      rw [hi6 142 (by decide)] at q
      have e50 : M6 50 = M3 50 := by rw [h6, zup_ne _ _ _ (by decide)]
      rw [e50, w3 p (by omega) (town2 p (by omega) q)]
      unfold wfF
      rw [hi6 145 (by decide), hi6 146 (by decide)]
      congr 1
      funext j
      rw [rawF_e (ve6 _) be6]
  refine vcX11_noteWarnings (fun m l1 M' => ∃ i : Nat, l1 = (i : Int) ∧ i ≤ 100 ∧ m = 100 - i ∧ (∀ x j, dW x j = false → M' x j = M x j) ∧ tlOk M' ∧ (0 ≤ M' 0 6 ∧ M' 0 6 ≤ 100) ∧ rRaw M' ∧ (M' 0 7 = 0 ∨ M' 0 7 = 1) ∧ (∀ p, p < P → M 45 p ≠ -1 → M' 50 p = wat (fun h => rawF M (h : Nat) (h : Nat)) (M 145 p) (M 146 p) 0 i)) ?_ ?_
  · refine ⟨by rcases kp.2 with q | q <;> rw [q] <;> exact zRd rfl, fun q => ?_, fun q => h M (fun _ _ _ => rfl) hB.1 kp hr (kp.2.resolve_left q) hw⟩
    refine vcX3_forgetWarnings ?_
    intro M1 h1
    have f1 : ∀ x j, dW x j = false → M1 x j = M x j := fun x j hx => by
      by_cases q2 : x = 50
      · rw [q2] at hx
        cases hx
      · rw [h1, zfill_ne _ q2]
    obtain ⟨ve, be⟩ := hi_eq (W_hi f1)
    refine ⟨100, 0, rfl, by omega, rfl, f1, fun j j1 j2 => by rw [h1, zfill_ne _ (by decide)]; exact hB.1 j j1 j2, by rw [h1, zfill_ne _ (by decide)]; exact kp.1, fun j hj => ?_, by rw [h1, zfill_ne _ (by decide)]; exact kp.2, fun p hp q2 => ?_⟩
    · rw [h1, zfill_ne _ (by decide)] at hj
      rw [rawF_e (ve _) be, h1, zfill_ne _ (by decide)]
      exact hr j hj
    · rw [h1, zfill_r, if_pos ⟨rfl, by omega⟩]
      rfl
  · rintro m l1 M' ⟨i, rfl, hi, rfl, f', t', k', r', n', w'⟩
    refine ⟨by unfold zR; omega, fun q => ?_, fun q => ?_⟩
    · have : i = 100 := by omega
      subst this
      exact fun M3 h3 => fin M' M3 f' t' k' r' w' h3
    · have ep : M' 44 6 = (P : Int) := by rw [f' 44 6 rfl, p1, hP]
      have ec : M' 45 = M 45 := funext fun j => f' _ j rfl
      have eth : M' 47 = M 47 := funext fun j => f' _ j rfl
      have elg : M' 48 = M 48 := funext fun j => f' _ j rfl
      have wz : ∀ j, j < P → M 45 j ≠ -1 → zR (M' 50 j) := fun j hj q2 => by
        rw [w' j hj q2]
        have := wt j hj q2 i hi
        unfold zR
        omega
      refine c_someUnwarned ep (by omega) (fun j => by rw [ec]; exact p4 j) (fun j hj q2 => by rw [ec] at q2; exact wz j hj q2) (fun hall => ?_) ?_
      · refine ⟨zRd rfl, fun _ => fun M6 h6 => fin M' M6 f' t' k' r' (fun p hp q2 => ?_) h6, fun q2 => absurd rfl q2⟩
        have := hall p hp (by rw [ec]; exact q2)
        rw [w' p hp q2] at this ⊢
        have e := wat_stop (town p hp q2).2.2.2.2.1 0 i (100 - i) this
        rw [show i + (100 - i) = 100 by omega] at e
        exact e.symm
      · refine ⟨zRd rfl, fun q2 => absurd q2 (by decide), fun _ => ?_⟩
        have hA' : RelA k0 M' := W_rel hA0 f' ⟨k', n'⟩
        have hB' := W_bok hA0 f' t' hB
        obtain ⟨ve, be⟩ := hi_eq (W_hi f')
        refine c_rawOwn hA' hB' r' (show i < 100 by omega) ?_
        intro M8 f8 t8 k8 r8
        rw [rawF_e (ve _) be]
        have f8W : ∀ x j, dW x j = false → M8 x j = M' x j := fr_sub dE_W f8
        have rr := raw_r hB j4.1 (i : Nat) (i : Nat)
        have e50 : M8 50 = M' 50 := funext fun j => f8 _ j rfl
        have ec8 : M8 45 = M 45 := by rw [← ec]; exact funext fun j => f8 _ j rfl
        have eth8 : M8 47 = M 47 := by rw [← eth]; exact funext fun j => f8 _ j rfl
        have elg8 : M8 48 = M 48 := by rw [← elg]; exact funext fun j => f8 _ j rfl
        refine c_warn (P := P) (by rw [f8 44 6 rfl]; exact ep) (by omega) (by unfold zR; omega) (fun j => by rw [ec8]; exact p4 j) (fun j hj q2 => ?_) ?_
        · rw [ec8] at q2
          rw [e50, eth8]
          refine ⟨wz j hj q2, ?_⟩
          rw [(town j hj q2).2.1]
          have := (town j hj q2).2.2.2.1
          unfold zR
          omega
        · intro M10 f10 w10
          have f10W : ∀ x j, dW x j = false → M10 x j = M8 x j := fun x j hx => by
            by_cases q2 : x = 50
            · rw [q2] at hx
              cases hx
            · rw [f10 x q2]
          have fr10 := fr_t (fr_t f' f8W) f10W
          obtain ⟨ve10, be10⟩ := hi_eq (W_hi fr10)
          obtain ⟨ve8, be8⟩ := hi_eq (W_hi (fr_t f' f8W))
          refine ⟨100 - (i + 1), by omega, i + 1, by omega, by omega, rfl, fr10, fun j j1 j2 => by rw [f10 _ (by decide)]; exact t8 j j1 j2, by rw [f10 _ (by decide)]; exact k8, fun j hj => ?_, by rw [f10 0 (by decide), f8 0 7 rfl]; exact n', fun p hp q2 => ?_⟩
          · rw [f10 _ (by decide)] at hj
            rw [rawF_e (ve10 _) be10, f10 _ (by decide), r8 j hj, rawF_e (ve8 _) be8]
          · rw [w10 p hp (by rw [ec8]; exact q2), e50, eth8, elg8, w' p hp q2, (town p hp q2).2.1, (town p hp q2).2.2.1, wat_snoc (town p hp q2).2.2.2.2.1]
            rw [Nat.zero_add]
            generalize wat (fun h => rawF M (h : Nat) (h : Nat)) (M 145 p) (M 146 p) 0 i = z
            by_cases q3 : z = -1
            · rw [if_pos q3]
              by_cases q4 : M 145 p ≤ rawF M (i : Nat) (i : Nat)
              · rw [if_pos ⟨q3, q4⟩, if_pos q4]
              · rw [if_neg (fun q5 => q4 q5.2), if_neg q4, q3]
            · rw [if_neg q3, if_neg (fun q5 => q3 q5.1)]
