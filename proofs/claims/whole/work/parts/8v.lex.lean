/-! tokens, purely; the class's tape -/
def whl (p : Int → Bool) (t : Nat → Int) : Nat → Nat → Nat
  | 0, a => a
  | k + 1, a => if p (t a) = true then whl p t k (a + 1) else a
/-- the first place from a on, short of n, whose byte isn't such a one -/
def wh (p : Int → Bool) (t : Nat → Int) (n a : Nat) : Nat := whl p t (n - a) a
theorem wh_s {p : Int → Bool} {t : Nat → Int} {n a : Nat} (h : a < n) (hp : p (t a) = true) : wh p t n a = wh p t n (a + 1) := by
  unfold wh
  rw [show n - a = (n - (a + 1)) + 1 by omega]
  show (if p (t a) = true then _ else _) = _
  rw [if_pos hp]
theorem wh_e {p : Int → Bool} {t : Nat → Int} {n a : Nat} (h : n ≤ a ∨ p (t a) = false) : wh p t n a = a := by
  unfold wh
  cases q : n - a with
  | zero => rfl
  | succ k =>
    show (if p (t a) = true then _ else _) = _
    rcases h with h | h
    · omega
    · rw [if_neg (by rw [h]; decide)]
theorem whl_r {p : Int → Bool} {t : Nat → Int} (k a : Nat) : a ≤ whl p t k a ∧ whl p t k a ≤ a + k := by
  induction k generalizing a with
  | zero => exact ⟨Nat.le_refl _, Nat.le_refl _⟩
  | succ k ih =>
    have := ih (a + 1)
    unfold whl
    split <;> omega
theorem wh_r {p : Int → Bool} {t : Nat → Int} {n a : Nat} (h : a ≤ n) : a ≤ wh p t n a ∧ wh p t n a ≤ n := by
  have := whl_r (p := p) (t := t) (n - a) a
  unfold wh
  omega
theorem whl_x {p : Int → Bool} {t : Nat → Int} (k a : Nat) (h : whl p t k a < a + k) : p (t (whl p t k a)) = false := by
  induction k generalizing a with
  | zero => exact absurd h (by show ¬ a < a + 0; omega)
  | succ k ih =>
    unfold whl at h ⊢
    by_cases q : p (t a) = true
    · rw [if_pos q] at h ⊢
      exact ih (a + 1) (by omega)
    · rw [if_neg q]
      simpa using q
theorem wh_x {p : Int → Bool} {t : Nat → Int} {n a : Nat} (h : a ≤ n) (hx : wh p t n a < n) : p (t (wh p t n a)) = false := whl_x _ _ (by unfold wh at hx; omega)
def isB (c : Int) : Bool := decide (c = 10 ∨ c = 32)
def isL (c : Int) : Bool := decide (97 ≤ c ∧ c ≤ 122)
def isD (c : Int) : Bool := decide (48 ≤ c ∧ c ≤ 57)
/-- a number's value, of k digits -/
def nmv (t : Nat → Int) (a : Nat) : Nat → Int
  | 0 => 0
  | k + 1 => if ((nmv t a k * 10) + t (a + k)) - 48 < 1000000 then ((nmv t a k * 10) + t (a + k)) - 48 else 1000000
/-- the words' row: where the word begins, which it is -/
def wdS : Nat → Nat
  | 0 => 0
  | i + 1 => if zWin.getD i 0 = 32 then i + 1 else wdS i
def wdC : Nat → Nat
  | 0 => 0
  | i + 1 => if zWin.getD i 0 = 32 then wdC i + 1 else wdC i
def wdB (t : Nat → Int) (a f : Nat) : Nat → Bool
  | 0 => true
  | k + 1 => wdB t a f k && (zWin.getD (f + k) 0 == t (a + k))
def wrT (t : Nat → Int) (a b : Nat) : Nat → Int
  | 0 => 33
  | i + 1 => if zWin.getD i 0 = 32 ∧ (i - wdS i = b - a ∧ wdB t a (wdS i) (i - wdS i) = true) then (wdC i : Int) else wrT t a b i
theorem wdS_u (i : Nat) : wdS (i + 1) = if zWin.getD i 0 = 32 then i + 1 else wdS i := rfl
theorem wdC_u (i : Nat) : wdC (i + 1) = if zWin.getD i 0 = 32 then wdC i + 1 else wdC i := rfl
theorem wrT_u (t : Nat → Int) (a b i : Nat) : wrT t a b (i + 1) = if zWin.getD i 0 = 32 ∧ (i - wdS i = b - a ∧ wdB t a (wdS i) (i - wdS i) = true) then (wdC i : Int) else wrT t a b i := rfl
theorem nmv_u (t : Nat → Int) (a k : Nat) : nmv t a (k + 1) = if ((nmv t a k * 10) + t (a + k)) - 48 < 1000000 then ((nmv t a k * 10) + t (a + k)) - 48 else 1000000 := rfl
theorem wdS_le (i : Nat) : wdS i ≤ i := by
  induction i with
  | zero => exact Nat.le_refl _
  | succ i ih => unfold wdS; split <;> omega
theorem wdC_le (i : Nat) : wdC i ≤ i := by
  induction i with
  | zero => exact Nat.le_refl _
  | succ i ih => unfold wdC; split <;> omega
theorem wdB_f {t : Nat → Int} {a f k : Nat} (h : zWin.getD (f + k) 0 ≠ t (a + k)) (m : Nat) (hm : k < m) : wdB t a f m = false := by
  induction m with
  | zero => omega
  | succ m ih =>
    unfold wdB
    by_cases q : k = m
    · subst q
      rw [show (zWin.getD (f + k) 0 == t (a + k)) = false from beq_eq_false_iff_ne.mpr h, Bool.and_false]
    · rw [ih (by omega), Bool.false_and]
/-- a sign: which, and its length; d is the byte behind it -/
def sgK (c d : Int) : Int := if c = 59 then 17 else if c = 40 then 18 else if c = 41 then 19 else if c = 44 then 20 else if c = 43 then 21 else if c = 45 then 22 else if c = 42 then 23 else if c = 47 then 24 else if c = 61 then 27 else if c = 60 then (if d = 61 then 26 else if d = 62 then 28 else 25) else if c = 62 then (if d = 61 then 29 else 30) else 33
def sgL (c d : Int) : Nat := if (c = 60 ∧ (d = 61 ∨ d = 62)) ∨ (c = 62 ∧ d = 61) then 2 else 1
def byD (t : Nat → Int) (n a : Nat) : Int := if a < n then t a else -1
def lxP (t : Nat → Int) (n a : Nat) : Nat := wh isB t n a
def lxE (t : Nat → Int) (n a : Nat) : Nat := if n ≤ lxP t n a then lxP t n a else if isL (t (lxP t n a)) = true then wh isL t n (lxP t n a) else if isD (t (lxP t n a)) = true then wh isD t n (lxP t n a) else lxP t n a + sgL (t (lxP t n a)) (byD t n (lxP t n a + 1))
def lxK (t : Nat → Int) (n a : Nat) : Int := if n ≤ lxP t n a then 32 else if isL (t (lxP t n a)) = true then wrT t (lxP t n a) (wh isL t n (lxP t n a)) 77 else if isD (t (lxP t n a)) = true then 16 else sgK (t (lxP t n a)) (byD t n (lxP t n a + 1))
def lxN (t : Nat → Int) (n a : Nat) : Int := nmv t (lxP t n a) (wh isD t n (lxP t n a) - lxP t n a)
theorem zup_zup (M : zM) (a i : Nat) (v w : Int) : zup (zup M a i v) a i w = zup M a i w := by
  funext x j
  rw [zup_q, zup_q, zup_q]
  by_cases q : x = a ∧ j = i
  · rw [if_pos q, if_pos q]
  · rw [if_neg q, if_neg q, if_neg q]
theorem zup_com (M : zM) {a i b k : Nat} (v w : Int) (h : a ≠ b ∨ i ≠ k) : zup (zup M a i v) b k w = zup (zup M b k w) a i v := by
  funext x j
  rw [zup_q, zup_q, zup_q, zup_q]
  by_cases q : x = b ∧ j = k
  · rw [if_pos q, if_pos q, if_neg (by omega)]
  · rw [if_neg q, if_neg q]
theorem zup_self (M : zM) (a i : Nat) : zup M a i (M a i) = M := by
  funext x j
  rw [zup_q]
  by_cases q : x = a ∧ j = i
  · rw [if_pos q, q.1, q.2]
  · rw [if_neg q]
/-- the tape's head: at, token, place, number -/
def tpS (M : zM) (e k p m : Int) : zM := zup (zup (zup (zup M 2 3 e) 2 4 k) 2 5 p) 2 6 m
theorem tpS_q (M : zM) (e k p m : Int) (x j : Nat) : tpS M e k p m x j = if x = 2 ∧ j = 6 then m else if x = 2 ∧ j = 5 then p else if x = 2 ∧ j = 4 then k else if x = 2 ∧ j = 3 then e else M x j := by
  unfold tpS
  simp only [zup_q]
theorem tpS_r (M : zM) (e k p m : Int) : tpS M e k p m 2 3 = e ∧ tpS M e k p m 2 4 = k ∧ tpS M e k p m 2 5 = p ∧ tpS M e k p m 2 6 = m ∧ tpS M e k p m 2 2 = M 2 2 ∧ tpS M e k p m 3 = M 3 := by
  refine ⟨?_, ?_, ?_, ?_, ?_, ?_⟩
  · rw [tpS_q]; simp
  · rw [tpS_q]; simp
  · rw [tpS_q]; simp
  · rw [tpS_q]; simp
  · rw [tpS_q]; simp
  · funext j; rw [tpS_q]; simp
theorem tpS_n (M : zM) (e k p m : Int) {x : Nat} (h : x ≠ 2) : tpS M e k p m x = M x := by
  funext j
  rw [tpS_q, if_neg (by omega), if_neg (by omega), if_neg (by omega), if_neg (by omega)]
theorem tpS_at (M : zM) (e k p m v : Int) : zup (tpS M e k p m) 2 3 v = tpS M v k p m := by
  funext x j
  rw [zup_q, tpS_q, tpS_q]
  repeat' split
  all_goals first | rfl | omega
theorem tpS_tk (M : zM) (e k p m v : Int) : zup (tpS M e k p m) 2 4 v = tpS M e v p m := by
  funext x j
  rw [zup_q, tpS_q, tpS_q]
  repeat' split
  all_goals first | rfl | omega
theorem tpS_pl (M : zM) (e k p m v : Int) : zup (tpS M e k p m) 2 5 v = tpS M e k v m := by
  funext x j
  rw [zup_q, tpS_q, tpS_q]
  repeat' split
  all_goals first | rfl | omega
theorem tpS_nm (M : zM) (e k p m v : Int) : zup (tpS M e k p m) 2 6 v = tpS M e k p v := by
  funext x j
  rw [zup_q, tpS_q, tpS_q]
  repeat' split
  all_goals first | rfl | omega
theorem tpS_self (M : zM) : tpS M (M 2 3) (M 2 4) (M 2 5) (M 2 6) = M := by
  funext x j
  rw [tpS_q]
  repeat' split
  all_goals first | rfl | (rename_i q; rw [q.1, q.2])
/-- the text: n bytes t -/
def txR (M : zM) (t : Nat → Int) (n : Nat) : Prop := M 2 2 = (n : Int) ∧ n ≤ 500 ∧ M 3 = t ∧ ∀ i, 0 ≤ t i ∧ t i ≤ 255
theorem txR_s {M : zM} {t : Nat → Int} {n : Nat} (h : txR M t n) (e k p m : Int) : txR (tpS M e k p m) t n := by
  obtain ⟨-, -, -, -, e5, e6⟩ := tpS_r M e k p m
  unfold txR
  rw [e5, e6]
  exact h
theorem c_isLetter {E : zE} {M : zM} {Q : Int → zM → Prop} {c : Int} (hc : 0 ≤ c ∧ c ≤ 255) (h : Q (if isL c = true then 1 else 0) M) : zP E mX9_isLetter [.inl c] M Q := by
  refine vcX9_isLetter _ ?_
  unfold isL at h
  refine ⟨by unfold zR; omega, fun q => ?_, fun q => ⟨by unfold zR; omega, fun q2 => ?_, fun q2 => ?_⟩⟩
  · rw [if_neg (by rw [decide_eq_true_iff]; omega)] at h; exact h
  · rw [if_neg (by rw [decide_eq_true_iff]; omega)] at h; exact h
  · rw [if_pos (by rw [decide_eq_true_iff]; omega)] at h; exact h
theorem c_isDigit {E : zE} {M : zM} {Q : Int → zM → Prop} {c : Int} (hc : 0 ≤ c ∧ c ≤ 255) (h : Q (if isD c = true then 1 else 0) M) : zP E mX9_isDigit [.inl c] M Q := by
  refine vcX9_isDigit _ ?_
  unfold isD at h
  refine ⟨by unfold zR; omega, fun q => ?_, fun q => ⟨by unfold zR; omega, fun q2 => ?_, fun q2 => ?_⟩⟩
  · rw [if_neg (by rw [decide_eq_true_iff]; omega)] at h; exact h
  · rw [if_neg (by rw [decide_eq_true_iff]; omega)] at h; exact h
  · rw [if_pos (by rw [decide_eq_true_iff]; omega)] at h; exact h
theorem ite01 {P : Prop} [Decidable P] : zR (if P then (1 : Int) else 0) ∧ ((if P then (1 : Int) else 0) = 0 ↔ ¬ P) := by
  by_cases q : P
  · rw [if_pos q]; exact ⟨zRd rfl, fun q2 => absurd q2 (by decide), fun q2 => absurd q q2⟩
  · rw [if_neg q]; exact ⟨zRd rfl, fun _ => q, fun _ => rfl⟩
theorem c_isWordAt {E : zE} {M : zM} {Q : Int → zM → Prop} {t : Nat → Int} {n a b f e : Nat} (hT : txR M t n) (ha : M 2 5 = (a : Int)) (hb : M 2 3 = (b : Int)) (hab : a ≤ b) (hbn : b ≤ n) (hfe : f ≤ e) (he : e ≤ 77) (h : Q (if e - f = b - a ∧ wdB t a f (e - f) = true then 1 else 0) M) : zP E mX9_isWordAt [.inr (.inr 2), .inl (f : Int), .inl (e : Int)] M Q := by
  obtain ⟨t1, t2, t3, t4⟩ := hT
  refine vcX9_isWordAt _ _ (fun m l1 l2 l3 M' => M' = M ∧ l1 = (f : Int) ∧ l2 = (e : Int) ∧ ∃ i : Nat, l3 = (i : Int) ∧ f ≤ i ∧ i ≤ e ∧ m = 100 - i ∧ e - f = b - a ∧ wdB t a f (i - f) = true) ?_ ?_
  · rw [ha, hb]
    refine ⟨⟨by unfold zR; omega, by unfold zR; omega⟩, fun q => ⟨100 - f, rfl, rfl, rfl, f, rfl, Nat.le_refl _, hfe, rfl, by omega, by rw [Nat.sub_self]; rfl⟩, fun q => ?_⟩
    rw [if_neg (fun q2 => q (by omega))] at h
    exact h
  · rintro m l1 l2 l3 M' ⟨rfl, rfl, rfl, i, rfl, hi1, hi2, rfl, hl, hB⟩
    rw [ha, t3, show (((a : Int) + (i : Int)) - (f : Int)).toNat = a + (i - f) by omega, Int.toNat_natCast]
    refine ⟨⟨by unfold zR; omega, by unfold zR; omega⟩, fun q => ?_, fun q => ⟨by omega, by omega, ⟨?_, ?_⟩, fun q2 => ?_, fun q2 => ?_⟩⟩
    · have : i = e := by omega
      subst this
      rw [if_pos ⟨hl, hB⟩] at h
      exact h
    · have := zWin_r i (by omega)
      unfold zR
      omega
    · have := t4 (a + (i - f))
      unfold zR
      omega
    · refine ⟨100 - (i + 1), by omega, rfl, rfl, rfl, i + 1, by omega, by omega, by omega, rfl, hl, ?_⟩
      rw [show i + 1 - f = (i - f) + 1 by omega]
      unfold wdB
      rw [hB, Bool.true_and, show f + (i - f) = i by omega, q2]
      exact beq_self_eq_true _
    · rw [if_neg (fun q3 => ?_)] at h
      · exact h
      · have := wdB_f (t := t) (a := a) (f := f) (k := i - f) (by rw [show f + (i - f) = i by omega]; exact q2) (e - f) (by omega)
        rw [this] at q3
        exact absurd q3.2 (by decide)
theorem c_readWord {E : zE} {M : zM} {Q : Int → zM → Prop} {t : Nat → Int} {n a : Nat} {k m : Int} (hT : txR M t n) (han : a ≤ n) (h : Q 0 (tpS M (wh isL t n a : Nat) (wrT t a (wh isL t n a) 77) (a : Nat) m)) : zP E mX9_readWord [.inr (.inr 2)] (tpS M (a : Nat) k (a : Nat) m) Q := by
  obtain ⟨t1, t2, t3, t4⟩ := id hT
  obtain ⟨e, he⟩ : ∃ e, e = wh isL t n a := ⟨_, rfl⟩
  have her := wh_r (p := isL) (t := t) han
  rw [← he] at h her
  have core : ∀ (X Y : zM → Prop) (i : Nat), a ≤ i → i ≤ n → wh isL t n i = e → (∀ M', M' = tpS M (e : Nat) 33 (a : Nat) m → X M') → (∀ M', M' = tpS M ((i + 1 : Nat) : Int) k (a : Nat) m → i < n → wh isL t n (i + 1) = e → Y M') →
      ((zR (tpS M (i : Nat) k (a : Nat) m 2 3) ∧ zR (tpS M (i : Nat) k (a : Nat) m 2 2)) ∧ (((tpS M (i : Nat) k (a : Nat) m 2 2) ≤ (tpS M (i : Nat) k (a : Nat) m 2 3) → (∀ M1, M1 = zup (tpS M (i : Nat) k (a : Nat) m) 2 4 33 → X M1)) ∧ ((tpS M (i : Nat) k (a : Nat) m 2 3) < (tpS M (i : Nat) k (a : Nat) m 2 2) → (0 ≤ tpS M (i : Nat) k (a : Nat) m 2 3 ∧ tpS M (i : Nat) k (a : Nat) m 2 3 < 500) ∧ (zP E mX9_isLetter [.inl (tpS M (i : Nat) k (a : Nat) m 3 ((tpS M (i : Nat) k (a : Nat) m 2 3).toNat))] (tpS M (i : Nat) k (a : Nat) m) (fun r2 M3 => ((zR r2) ∧ ((r2 = 0 → (∀ M4, M4 = zup M3 2 4 33 → X M4)) ∧ (¬ r2 = 0 → (∀ M5, M5 = zup M3 2 3 ((M3 2 3) + 1) → Y M5))))))))) := by
    intro X Y i hai hi hw p1 p2
    obtain ⟨e1, -, -, -, e5, e6⟩ := tpS_r M (i : Nat) k (a : Nat) m
    rw [e1, e5, t1, e6, t3, Int.toNat_natCast]
    refine ⟨⟨by unfold zR; omega, by unfold zR; omega⟩, fun q M1 h1 => ?_, fun q => ⟨by omega, ?_⟩⟩
    · have : i = e := by rw [← hw]; exact (wh_e (Or.inl (by omega))).symm
      subst this
      exact p1 M1 (by rw [h1, tpS_tk])
    · refine c_isLetter (t4 i) ⟨ite01.1, fun q2 M4 h4 => ?_, fun q2 M5 h5 => ?_⟩
      · have q3 := ite01.2.mp q2
        have : i = e := by rw [← hw]; exact (wh_e (Or.inr (by simpa using q3))).symm
        subst this
        exact p1 M4 (by rw [h4, tpS_tk])
      · have q3 : isL (t i) = true := Classical.byContradiction (fun q4 => q2 (ite01.2.mpr q4))
        refine p2 M5 (by rw [h5, tpS_at, e1]; congr 1) (by omega) ?_
        rw [← hw]
        exact (wh_s (by omega) q3).symm
  refine vcX9_readWord (fun m' M' => ∃ i : Nat, a ≤ i ∧ i ≤ n ∧ wh isL t n i = e ∧ m' = 1000 - i ∧ M' = tpS M (i : Nat) k (a : Nat) m)
    (fun m' l1 l2 l3 M' => ∃ i : Nat, l3 = (i : Int) ∧ i ≤ 77 ∧ l1 = (wdC i : Int) ∧ l2 = (wdS i : Int) ∧ m' = 100 - i ∧ M' = tpS M (e : Nat) (wrT t a e i) (a : Nat) m) ?_ ?_ ?_
  · exact core _ _ a (Nat.le_refl _) han he.symm (fun M' hM' => ⟨100 - 0, 0, rfl, by omega, rfl, rfl, rfl, hM'⟩) (fun M' hM' q1 q2 => ⟨1000 - (a + 1), a + 1, by omega, by omega, q2, rfl, hM'⟩)
  · rintro m' M' ⟨i, hai, hi, hw, rfl, rfl⟩
    exact core _ _ i hai hi hw (fun M' hM' => ⟨100 - 0, by omega, 0, rfl, by omega, rfl, rfl, rfl, hM'⟩) (fun M' hM' q1 q2 => ⟨1000 - (i + 1), by omega, i + 1, by omega, by omega, q2, rfl, hM'⟩)
  · rintro m' l1 l2 l3 M' ⟨i, rfl, hi, rfl, rfl, rfl, rfl⟩
    obtain ⟨e1, e2, e3, e4, e5, e6⟩ := tpS_r M (e : Nat) (wrT t a e i) (a : Nat) m
    rw [Int.toNat_natCast]
    refine ⟨by unfold zR; omega, fun q => ?_, fun q => ⟨by omega, ?_, fun q2 => ?_, fun q2 => ?_⟩⟩
    · have : i = 77 := by omega
      subst this
      exact h
    · have := zWin_r i (by omega)
      unfold zR
      omega
    · refine ⟨100 - (i + 1), by omega, i + 1, by omega, by omega, ?_, ?_, rfl, ?_⟩
      · rw [wdC_u, if_neg q2]
      · rw [wdS_u, if_neg q2]
      · show _ = tpS M (e : Nat) (if zWin.getD i 0 = 32 ∧ (i - wdS i = e - a ∧ wdB t a (wdS i) (i - wdS i) = true) then (wdC i : Int) else wrT t a e i) (a : Nat) m
        rw [if_neg (fun q3 => q2 q3.1)]
    · refine c_isWordAt (t := t) (n := n) (a := a) (b := e) (txR_s hT ..) e3 e1 (by omega) (by omega) (wdS_le i) (by omega) ?_
      have uS : wdS (i + 1) = i + 1 := by rw [wdS_u, if_pos q2]
      have uC : wdC (i + 1) = wdC i + 1 := by rw [wdC_u, if_pos q2]
      have uT : wrT t a e (i + 1) = if (i - wdS i = e - a ∧ wdB t a (wdS i) (i - wdS i) = true) then (wdC i : Int) else wrT t a e i := by
        show (if zWin.getD i 0 = 32 ∧ (i - wdS i = e - a ∧ wdB t a (wdS i) (i - wdS i) = true) then (wdC i : Int) else wrT t a e i) = _
        by_cases q3 : (i - wdS i = e - a ∧ wdB t a (wdS i) (i - wdS i) = true)
        · rw [if_pos ⟨q2, q3⟩, if_pos q3]
        · rw [if_neg (fun q4 => q3 q4.2), if_neg q3]
      refine ⟨ite01.1, fun q3 => ?_, fun q3 M13 h13 => ?_⟩
      · have q4 := ite01.2.mp q3
        rw [if_neg q4] at uT
        exact ⟨100 - (i + 1), by omega, i + 1, by omega, by omega, by rw [uC]; omega, by rw [uS]; omega, rfl, by rw [uT]⟩
      · have q4 : (i - wdS i = e - a ∧ wdB t a (wdS i) (i - wdS i) = true) := Classical.byContradiction (fun q5 => q3 (ite01.2.mpr q5))
        rw [if_pos q4] at uT
        exact ⟨100 - (i + 1), by omega, i + 1, by omega, by omega, by rw [uC]; omega, by rw [uS]; omega, rfl, by rw [uT, h13, tpS_tk]⟩
theorem nmv_r {t : Nat → Int} {a k : Nat} (h : ∀ i, i < k → isD (t (a + i)) = true) : 0 ≤ nmv t a k ∧ nmv t a k ≤ 1000000 := by
  induction k with
  | zero => exact ⟨Int.le_refl _, by show (0 : Int) ≤ 1000000; omega⟩
  | succ k ih =>
    have ih := ih (fun i hi => h i (by omega))
    have d := h k (by omega)
    unfold isD at d
    rw [decide_eq_true_iff] at d
    unfold nmv
    split <;> omega
theorem c_readNumber {E : zE} {M : zM} {Q : Int → zM → Prop} {t : Nat → Int} {n a : Nat} {k m : Int} (hT : txR M t n) (han : a ≤ n) (h : Q 0 (tpS M (wh isD t n a : Nat) 16 (a : Nat) (nmv t a (wh isD t n a - a)))) : zP E mX9_readNumber [.inr (.inr 2)] (tpS M (a : Nat) k (a : Nat) m) Q := by
  obtain ⟨t1, t2, t3, t4⟩ := id hT
  obtain ⟨e, he⟩ : ∃ e, e = wh isD t n a := ⟨_, rfl⟩
  have her := wh_r (p := isD) (t := t) han
  rw [← he] at h her
  refine vcX9_readNumber (fun m' M' => ∃ i : Nat, a ≤ i ∧ i ≤ n ∧ wh isD t n i = e ∧ m' = 1000 - i ∧ (∀ j, j < i - a → isD (t (a + j)) = true) ∧ M' = tpS M (i : Nat) 16 (a : Nat) (nmv t a (i - a))) ?_ ?_
  · intro M1 h1 M2 h2
    refine ⟨1000 - a, a, Nat.le_refl _, han, he.symm, rfl, fun j hj => by omega, ?_⟩
    rw [h2, h1, tpS_tk, tpS_nm, Nat.sub_self]
    rfl
  · rintro m' M' ⟨i, hai, hi, hw, rfl, hd, rfl⟩
    obtain ⟨e1, e2, e3, e4, e5, e6⟩ := tpS_r M (i : Nat) 16 (a : Nat) (nmv t a (i - a))
    rw [e1, e5, t1, e6, t3, Int.toNat_natCast]
    refine ⟨⟨by unfold zR; omega, by unfold zR; omega⟩, fun q => ?_, fun q => ⟨by omega, ?_⟩⟩
    · have : i = e := by rw [← hw]; exact (wh_e (Or.inl (by omega))).symm
      subst this
      exact h
    · refine c_isDigit (t4 i) ⟨ite01.1, fun q2 => ?_, fun q2 => ?_⟩
      · have q3 := ite01.2.mp q2
        have : i = e := by rw [← hw]; exact (wh_e (Or.inr (by simpa using q3))).symm
        subst this
        exact h
      · have q3 : isD (t i) = true := Classical.byContradiction (fun q4 => q2 (ite01.2.mpr q4))
        have nr := nmv_r hd
        have tr := t4 i
        rw [e1, e4, e6, t3, Int.toNat_natCast]
        refine ⟨by omega, by unfold zR; omega, fun M5 h5 M6 h6 => ⟨1000 - (i + 1), by omega, i + 1, by omega, by omega, ?_, rfl, fun j hj => ?_, ?_⟩⟩
        · rw [← hw]
          exact (wh_s (by omega) q3).symm
        · by_cases qj : j < i - a
          · exact hd j qj
          · rw [show a + j = i by omega]; exact q3
        · have un : nmv t a (i + 1 - a) = if ((nmv t a (i - a) * 10) + t i) - 48 < 1000000 then ((nmv t a (i - a) * 10) + t i) - 48 else 1000000 := by
            rw [show i + 1 - a = (i - a) + 1 by omega, nmv_u, show a + (i - a) = i by omega]
          rw [tpS_nm] at h5
          rw [h6, h5, (tpS_r ..).1, tpS_at, un]
          rfl
theorem c_takes {E : zE} {M : zM} {Q : Int → zM → Prop} {t : Nat → Int} {n i : Nat} {k p m c : Int} (hT : txR M t n) (hi : i ≤ 501) (hc : 0 ≤ c ∧ c ≤ 255) (h1 : byD t n i = c → Q 1 (tpS M ((i + 1 : Nat) : Int) k p m)) (h0 : byD t n i ≠ c → Q 0 (tpS M (i : Nat) k p m)) : zP E mX9_takes [.inr (.inr 2), .inl c] (tpS M (i : Nat) k p m) Q := by
  obtain ⟨t1, t2, t3, t4⟩ := id hT
  obtain ⟨e1, e2, e3, e4, e5, e6⟩ := tpS_r M (i : Nat) k p m
  refine vcX9_takes _ ?_
  rw [e1, e5, t1, e6, t3, Int.toNat_natCast]
  unfold byD at h1 h0
  by_cases q : i < n
  · rw [if_pos q] at h1 h0
    have tr := t4 i
    refine ⟨⟨by unfold zR; omega, by unfold zR; omega⟩, fun q2 => by omega, fun _ => ⟨by omega, ⟨by unfold zR; omega, by unfold zR; omega⟩, fun q2 => h0 q2, fun q2 M1 hM1 => ?_⟩⟩
    rw [hM1, tpS_at]
    exact h1 q2
  · rw [if_neg q] at h1 h0
    exact ⟨⟨by unfold zR; omega, by unfold zR; omega⟩, fun _ => h0 (by omega), fun q2 => absurd q2 (by omega)⟩
