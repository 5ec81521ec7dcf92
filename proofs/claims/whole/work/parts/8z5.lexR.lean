/-! the reference's tokens -/
/-- the reference's text: n bytes t -/
def txQ (M : zM) (t : Nat → Int) (n : Nat) : Prop := M 102 17 = (n : Int) ∧ n ≤ 500 ∧ M 103 = t ∧ (∀ i, 0 ≤ t i ∧ t i ≤ 255) ∧ rWds M
/-- its head: next, kind, which, place -/
def rtS (M : zM) (e k w p : Int) : zM := zup (zup (zup (zup M 102 18 e) 102 19 k) 102 20 w) 102 21 p
theorem rtS_q (M : zM) (e k w p : Int) (x j : Nat) : rtS M e k w p x j = if x = 102 ∧ j = 21 then p else if x = 102 ∧ j = 20 then w else if x = 102 ∧ j = 19 then k else if x = 102 ∧ j = 18 then e else M x j := by
  unfold rtS
  simp only [zup_q]
theorem rtS_r (M : zM) (e k w p : Int) : rtS M e k w p 102 18 = e ∧ rtS M e k w p 102 19 = k ∧ rtS M e k w p 102 20 = w ∧ rtS M e k w p 102 21 = p ∧ rtS M e k w p 102 17 = M 102 17 ∧ rtS M e k w p 103 = M 103 ∧ rtS M e k w p 112 = M 112 := by
  refine ⟨?_, ?_, ?_, ?_, ?_, ?_, ?_⟩
  · rw [rtS_q]; simp
  · rw [rtS_q]; simp
  · rw [rtS_q]; simp
  · rw [rtS_q]; simp
  · rw [rtS_q]; simp
  · funext j; rw [rtS_q]; simp
  · funext j; rw [rtS_q]; simp
theorem rtS_n (M : zM) (e k w p : Int) {x : Nat} (h : x ≠ 102) : rtS M e k w p x = M x := by
  funext j
  rw [rtS_q, if_neg (by omega), if_neg (by omega), if_neg (by omega), if_neg (by omega)]
theorem rtS_t (M : zM) (e k w p : Int) {j : Nat} (h1 : j ≠ 18) (h2 : j ≠ 19) (h3 : j ≠ 20) (h4 : j ≠ 21) : rtS M e k w p 102 j = M 102 j := by
  rw [rtS_q, if_neg (by omega), if_neg (by omega), if_neg (by omega), if_neg (by omega)]
theorem rtS_nx (M : zM) (e k w p v : Int) : zup (rtS M e k w p) 102 18 v = rtS M v k w p := by
  funext x j
  rw [zup_q, rtS_q, rtS_q]
  repeat' split
  all_goals first | rfl | omega
theorem rtS_kd (M : zM) (e k w p v : Int) : zup (rtS M e k w p) 102 19 v = rtS M e v w p := by
  funext x j
  rw [zup_q, rtS_q, rtS_q]
  repeat' split
  all_goals first | rfl | omega
theorem rtS_wh (M : zM) (e k w p v : Int) : zup (rtS M e k w p) 102 20 v = rtS M e k v p := by
  funext x j
  rw [zup_q, rtS_q, rtS_q]
  repeat' split
  all_goals first | rfl | omega
theorem rtS_pl (M : zM) (e k w p v : Int) : zup (rtS M e k w p) 102 21 v = rtS M e k w v := by
  funext x j
  rw [zup_q, rtS_q, rtS_q]
  repeat' split
  all_goals first | rfl | omega
theorem rtS_self (M : zM) : rtS M (M 102 18) (M 102 19) (M 102 20) (M 102 21) = M := by
  funext x j
  rw [rtS_q]
  repeat' split
  all_goals first | rfl | (rename_i q; rw [q.1, q.2])
theorem txQ_s {M : zM} {t : Nat → Int} {n : Nat} (h : txQ M t n) (e k w p : Int) : txQ (rtS M e k w p) t n := by
  obtain ⟨-, -, -, -, e5, e6, e7⟩ := rtS_r M e k w p
  unfold txQ rWds
  rw [e5, e6, e7]
  exact h
theorem r_isSmall {E : zE} {M : zM} {Q : Int → zM → Prop} {t : Nat → Int} {n i : Nat} (hT : txQ M t n) (hi : i ≤ 501) (h : Q (if i < n ∧ isL (t i) = true then 1 else 0) M) : zP E mX12_isSmall [.inr (.inr 102), .inl (i : Int)] M Q := by
  obtain ⟨t1, t2, t3, t4, t5⟩ := hT
  refine vcX12_isSmall _ ?_
  rw [t1, t3, Int.toNat_natCast]
  have tr := t4 i
  unfold isL at h
  refine ⟨⟨by unfold zR; omega, by unfold zR; omega⟩, fun q => ?_, fun q => ⟨by omega, by unfold zR; omega, fun q2 => ?_, fun q2 => ⟨by omega, by unfold zR; omega, fun q3 => ?_, fun q3 => ?_⟩⟩⟩
  · rw [if_neg (fun q2 => by omega)] at h; exact h
  · rw [if_neg (fun q3 => by rw [decide_eq_true_iff] at q3; omega)] at h; exact h
  · rw [if_neg (fun q4 => by rw [decide_eq_true_iff] at q4; omega)] at h; exact h
  · rw [if_pos ⟨by omega, by rw [decide_eq_true_iff]; omega⟩] at h; exact h
theorem r_isDigit {E : zE} {M : zM} {Q : Int → zM → Prop} {t : Nat → Int} {n i : Nat} (hT : txQ M t n) (hi : i ≤ 501) (h : Q (if i < n ∧ isD (t i) = true then 1 else 0) M) : zP E mX12_isDigit [.inr (.inr 102), .inl (i : Int)] M Q := by
  obtain ⟨t1, t2, t3, t4, t5⟩ := hT
  refine vcX12_isDigit _ ?_
  rw [t1, t3, Int.toNat_natCast]
  have tr := t4 i
  unfold isD at h
  refine ⟨⟨by unfold zR; omega, by unfold zR; omega⟩, fun q => ?_, fun q => ⟨by omega, by unfold zR; omega, fun q2 => ?_, fun q2 => ⟨by omega, by unfold zR; omega, fun q3 => ?_, fun q3 => ?_⟩⟩⟩
  · rw [if_neg (fun q2 => by omega)] at h; exact h
  · rw [if_neg (fun q3 => by rw [decide_eq_true_iff] at q3; omega)] at h; exact h
  · rw [if_neg (fun q4 => by rw [decide_eq_true_iff] at q4; omega)] at h; exact h
  · rw [if_pos ⟨by omega, by rw [decide_eq_true_iff]; omega⟩] at h; exact h
theorem r_isAt {E : zE} {M : zM} {Q : Int → zM → Prop} {t : Nat → Int} {n i : Nat} {c : Int} (hT : txQ M t n) (hi : i ≤ 501) (hc : 0 ≤ c ∧ c ≤ 255) (h : Q (if byD t n i = c then 1 else 0) M) : zP E mX12_isAt [.inr (.inr 102), .inl (i : Int), .inl c] M Q := by
  obtain ⟨t1, t2, t3, t4, t5⟩ := hT
  refine vcX12_isAt _ _ ?_
  rw [t1, t3, Int.toNat_natCast]
  have tr := t4 i
  unfold byD at h
  refine ⟨⟨by unfold zR; omega, by unfold zR; omega⟩, fun q => ?_, fun q => ⟨by omega, ⟨by unfold zR; omega, by unfold zR; omega⟩, fun q2 => ?_, fun q2 => ?_⟩⟩
  · rw [if_neg (show ¬ i < n by omega), if_neg (by omega)] at h; exact h
  · rw [if_pos (show i < n by omega), if_neg q2] at h; exact h
  · rw [if_pos (show i < n by omega), if_pos q2] at h; exact h
/-- the reference's number of a sign -/
def sgR (c d : Int) : Int := if c = 60 then (if d = 61 then 2 else if d = 62 then 4 else 1) else if c = 62 then (if d = 61 then 5 else 6) else if c = 61 then 3 else if c = 43 then 7 else if c = 45 then 8 else if c = 42 then 9 else if c = 47 then 10 else if c = 59 ∨ c = 44 ∨ c = 40 ∨ c = 41 then c else -1
theorem r_signOf {E : zE} {M : zM} {Q : Int → zM → Prop} {t : Nat → Int} {n i : Nat} {c : Int} (hT : txQ M t n) (hi : i ≤ 501) (hn : M 102 18 = (i : Int)) (hc : 0 ≤ c ∧ c ≤ 255) (h : Q (sgR c (byD t n i)) M) : zP E mX12_signOf [.inr (.inr 102), .inl c] M Q := by
  have zc : zR c := by unfold zR; omega
  refine vcX12_signOf _ ?_
  rw [hn]
  unfold sgR at h
  refine ⟨zc, fun q0 => ⟨zc, fun q1 => ⟨zc, fun q2 => ⟨zc, fun q3 => ⟨zc, fun q4 => ⟨zc, fun q5 => ⟨zc, fun q6 => ⟨zc, fun q7 => ?_, fun q7 => ⟨zc, fun q8 => ?_, fun q8 => ⟨zc, fun q9 => ?_, fun q9 => ⟨zc, fun q10 => ?_, fun q10 => ?_⟩⟩⟩⟩, fun q6 => ?_⟩, fun q5 => ?_⟩, fun q4 => ?_⟩, fun q3 => ?_⟩, fun q2 => ?_⟩, fun q1 => ?_⟩, fun q0 => ?_⟩
  · rw [if_neg q0, if_neg q1, if_neg q2, if_neg q3, if_neg q4, if_neg q5, if_neg q6, if_pos (by omega)] at h; exact h
  · rw [if_neg q0, if_neg q1, if_neg q2, if_neg q3, if_neg q4, if_neg q5, if_neg q6, if_pos (by omega)] at h; exact h
  · rw [if_neg q0, if_neg q1, if_neg q2, if_neg q3, if_neg q4, if_neg q5, if_neg q6, if_pos (by omega)] at h; exact h
  · rw [if_neg q0, if_neg q1, if_neg q2, if_neg q3, if_neg q4, if_neg q5, if_neg q6, if_neg (by omega)] at h; exact h
  · rw [if_neg q0, if_neg q1, if_neg q2, if_neg q3, if_neg q4, if_neg q5, if_neg q6, if_pos (by omega)] at h; exact h
  · rw [if_neg q0, if_neg q1, if_neg q2, if_neg q3, if_neg q4, if_neg q5, if_pos q6] at h; exact h
  · rw [if_neg q0, if_neg q1, if_neg q2, if_neg q3, if_neg q4, if_pos q5] at h; exact h
  · rw [if_neg q0, if_neg q1, if_neg q2, if_neg q3, if_pos q4] at h; exact h
  · rw [if_neg q0, if_neg q1, if_neg q2, if_pos q3] at h; exact h
  · rw [if_neg q0, if_neg q1, if_pos q2] at h; exact h
  · rw [if_neg q0, if_pos q1] at h
    refine r_isAt hT hi (by omega) ⟨ite01.1, fun q2 => ?_, fun q2 => ?_⟩
    · rw [if_neg (ite01.2.mp q2)] at h; exact h
    · rw [if_pos (Classical.byContradiction (fun q3 => q2 (ite01.2.mpr q3)))] at h; exact h
  · rw [if_pos q0] at h
    refine r_isAt hT hi (by omega) ⟨ite01.1, fun q2 => ?_, fun q2 => ?_⟩
    · rw [if_neg (ite01.2.mp q2)] at h
      rw [hn]
      refine r_isAt hT hi (by omega) ⟨ite01.1, fun q3 => ?_, fun q3 => ?_⟩
      · rw [if_neg (ite01.2.mp q3)] at h; exact h
      · rw [if_pos (Classical.byContradiction (fun q4 => q3 (ite01.2.mpr q4)))] at h; exact h
    · rw [if_pos (Classical.byContradiction (fun q3 => q2 (ite01.2.mpr q3)))] at h; exact h
/-- no two words are alike -/
def wneB (f g k : Nat) : Bool := (List.range k).any (fun j => zWin.getD (f + j) 0 != zWin.getD (g + j) 0)
theorem wne : ∀ e : Nat, e < 77 → zWin.getD e 0 = 32 → ∀ g : Nat, g < e → zWin.getD g 0 = 32 → e - wdS e = g - wdS g → wneB (wdS e) (wdS g) (e - wdS e) = true := by decide +kernel
theorem wdB_g {t : Nat → Int} {a f k : Nat} (h : wdB t a f k = true) (j : Nat) (hj : j < k) : zWin.getD (f + j) 0 = t (a + j) := by
  induction k with
  | zero => omega
  | succ k ih =>
    unfold wdB at h
    rw [Bool.and_eq_true] at h
    by_cases q : j = k
    · rw [q]; exact beq_iff_eq.mp h.2
    · exact ih h.1 (by omega)
theorem wr_uni {t : Nat → Int} {a b e : Nat} (he : e < 77) (hz : zWin.getD e 0 = 32) (hm : e - wdS e = b - a ∧ wdB t a (wdS e) (e - wdS e) = true) (g : Nat) (hg : e + 1 ≤ g) (hg2 : g ≤ 77) : wrT t a b g = (wdC e : Int) := by
  induction g with
  | zero => omega
  | succ g ih =>
    rw [wrT_u]
    by_cases q : g = e
    · subst q
      rw [if_pos ⟨hz, hm⟩]
    · have ih := ih (by omega) (by omega)
      rw [if_neg, ih]
      rintro ⟨z2, m1, m2⟩
      have w := wne g (by omega) z2 e (by omega) hz (by omega)
      unfold wneB at w
      rw [List.any_eq_true] at w
      obtain ⟨j, hj, ne⟩ := w
      rw [List.mem_range] at hj
      have c1 := wdB_g m2 j hj
      have c2 := wdB_g hm.2 j (by omega)
      rw [c1, c2] at ne
      simp at ne
theorem wd_run {i : Nat} (h0 : wdS i = i) (m : Nat) (h : ∀ j, j < m → zWin.getD (i + j) 0 ≠ 32) : wdS (i + m) = i ∧ wdC (i + m) = wdC i ∧ ∀ (t : Nat → Int) (a b : Nat), wrT t a b (i + m) = wrT t a b i := by
  induction m with
  | zero => exact ⟨h0, rfl, fun _ _ _ => rfl⟩
  | succ m ih =>
    obtain ⟨i1, i2, i3⟩ := ih (fun j hj => h j (by omega))
    have hm := h m (by omega)
    refine ⟨?_, ?_, fun t a b => ?_⟩
    · show wdS (i + m + 1) = i
      rw [wdS_u, if_neg hm]
      exact i1
    · show wdC (i + m + 1) = _
      rw [wdC_u, if_neg hm]
      exact i2
    · show wrT t a b (i + m + 1) = _
      rw [wrT_u, if_neg (fun q => hm q.1)]
      exact i3 t a b
set_option maxHeartbeats 4000000 in
theorem r_wordAt {E : zE} {M : zM} {Q : Int → zM → Prop} {t : Nat → Int} {n a b : Nat} (hT : txQ M t n) (hab : a ≤ b) (hbn : b ≤ n) (h : Q (if wrT t a b 77 = 33 then -1 else wrT t a b 77) M) : zP E mX12_wordAt [.inr (.inr 102), .inl (a : Int), .inl (b : Int)] M Q := by
  obtain ⟨t1, t2, t3, t4, t5⟩ := hT
  have z76 : zWin.getD 76 0 = 32 := by decide
  have hit : ∀ e : Nat, e < 77 → zWin.getD e 0 = 32 → (e - wdS e = b - a ∧ wdB t a (wdS e) (e - wdS e) = true) → Q (wdC e : Int) M := fun e he hz hm => by
    have w := wr_uni he hz hm 77 (by omega) (Nat.le_refl _)
    have c := wdC_r e he
    rw [w, if_neg (by omega)] at h
    exact h
  refine vcX12_wordAt _ _ (fun m l1 l2 l3 l4 M' => M' = M ∧ l1 = (a : Int) ∧ l2 = (b : Int) ∧ ∃ i : Nat, l4 = (i : Int) ∧ i ≤ 77 ∧ wdS i = i ∧ l3 = (wdC i : Int) ∧ wrT t a b i = 33 ∧ m = 100000 - 200 * i)
    (fun m l1 l2 l3 l4 l5 M' => M' = M ∧ l1 = (a : Int) ∧ l2 = (b : Int) ∧ ∃ i k : Nat, l4 = (i : Int) ∧ l5 = (k : Int) ∧ i + k < 77 ∧ wdS i = i ∧ l3 = (wdC i : Int) ∧ wrT t a b i = 33 ∧ (∀ j, j < k → zWin.getD (i + j) 0 ≠ 32) ∧ m = 99999 - 200 * i - k)
    (fun m l1 l2 l3 l4 l5 l6 l7 M' => M' = M ∧ l1 = (a : Int) ∧ l2 = (b : Int) ∧ ∃ i k p : Nat, l4 = (i : Int) ∧ l5 = (k : Int) ∧ l7 = (p : Int) ∧ i + k < 77 ∧ p ≤ k ∧ wdS i = i ∧ l3 = (wdC i : Int) ∧ wrT t a b i = 33 ∧ (∀ j, j < k → zWin.getD (i + j) 0 ≠ 32) ∧ zWin.getD (i + k) 0 = 32 ∧ ((l6 = 1 ∧ k = b - a ∧ wdB t a i p = true) ∨ (l6 = 0 ∧ ¬ (k = b - a ∧ wdB t a i k = true))) ∧ m = 99900 - 200 * i - p) ?_ ?_ ?_ ?_
  · exact ⟨100000 - 200 * 0, rfl, rfl, rfl, 0, rfl, by omega, rfl, rfl, rfl, rfl⟩
  · rintro m l1 l2 l3 l4 M' ⟨rfl, rfl, rfl, i, rfl, hi, hS, rfl, hw, rfl⟩
    refine ⟨by unfold zR; omega, fun q => ?_, fun q => ⟨99999 - 200 * i - 0, by omega, rfl, rfl, rfl, i, 0, rfl, rfl, by omega, hS, rfl, hw, fun j hj => by omega, rfl⟩⟩
    have : i = 77 := by omega
    subst this
    rw [if_pos hw] at h
    exact h
  · rintro m l1 l2 l3 l4 l5 M' ⟨rfl, rfl, rfl, i, k, rfl, rfl, hik, hS, rfl, hw, hj, rfl⟩
    have e1 : ((i : Int) + (k : Int)).toNat = i + k := by omega
    rw [e1, t5 _ hik]
    have zr := zWin_r (i + k) hik
    refine ⟨by omega, by unfold zR; omega, fun q => ⟨⟨by unfold zR; omega, by unfold zR; omega⟩, fun q2 => ?_, fun q2 => ?_⟩, fun q => ?_⟩
    · exact ⟨99900 - 200 * i - 0, by omega, rfl, rfl, rfl, i, k, 0, rfl, rfl, rfl, hik, by omega, hS, rfl, hw, hj, q, Or.inr ⟨rfl, fun q3 => q2 (by omega)⟩, rfl⟩
    · exact ⟨99900 - 200 * i - 0, by omega, rfl, rfl, rfl, i, k, 0, rfl, rfl, rfl, hik, by omega, hS, rfl, hw, hj, q, Or.inl ⟨rfl, by omega, rfl⟩, rfl⟩
    · have ne : i + k ≠ 76 := fun q2 => q (by rw [q2]; exact z76)
      refine ⟨99999 - 200 * i - (k + 1), by omega, rfl, rfl, rfl, i, k + 1, rfl, by omega, by omega, hS, rfl, hw, fun j hj2 => ?_, rfl⟩
      by_cases q2 : j = k
      · rw [q2]; exact q
      · exact hj j (by omega)
  · rintro m l1 l2 l3 l4 l5 l6 l7 M' ⟨rfl, rfl, rfl, i, k, p, rfl, rfl, rfl, hik, hp, hS, rfl, hw, hj, hz, h6, rfl⟩
    obtain ⟨r1, r2, r3⟩ := wd_run hS k hj
    have nxt : l6 = 0 → ∃ n', n' < 99900 - 200 * i - p ∧ (M' = M' ∧ (a : Int) = (a : Int) ∧ (b : Int) = (b : Int) ∧ ∃ i' : Nat, (i : Int) + ((k : Int) + 1) = (i' : Int) ∧ i' ≤ 77 ∧ wdS i' = i' ∧ (wdC i : Int) + 1 = (wdC i' : Int) ∧ wrT t a b i' = 33 ∧ n' = 100000 - 200 * i') := fun q => by
      have nm := (h6.resolve_left (fun q2 => by omega)).2
      refine ⟨100000 - 200 * (i + k + 1), by omega, rfl, rfl, rfl, i + k + 1, by omega, by omega, ?_, ?_, ?_, rfl⟩
      · rw [wdS_u, if_pos hz]
      · rw [wdC_u, if_pos hz, r2]
        omega
      · rw [wrT_u, if_neg, r3]
        · exact hw
        · rintro ⟨-, m1, m2⟩
          rw [r1, show i + k - i = k by omega] at m1 m2
          exact nm ⟨m1, m2⟩
    have fin : ¬ l6 = 0 → p = k → Q (wdC i : Int) M' := fun q q2 => by
      obtain ⟨-, m1, m2⟩ := h6.resolve_right (fun q3 => q q3.1)
      have := hit (i + k) hik hz (by rw [r1, show i + k - i = k by omega, ← q2]; rw [q2]; exact ⟨m1, by rw [← q2]; exact m2⟩)
      rw [r2] at this
      exact this
    have z6 : zR l6 := by rcases h6 with q | q <;> rw [q.1] <;> exact zRd rfl
    refine ⟨⟨by unfold zR; omega, by unfold zR; omega⟩, fun q => ⟨z6, nxt, fun q2 => fin q2 (by omega)⟩, fun q => ⟨z6, fun q2 => ⟨z6, nxt, fun q3 => absurd q2 q3⟩, fun q2 => ⟨by omega, ?_⟩⟩⟩
    obtain ⟨-, m1, m2⟩ := h6.resolve_right (fun q3 => q2 q3.1)
    have e1 : ((i : Int) + (p : Int)).toNat = i + p := by omega
    have e2 : ((a : Int) + (p : Int)).toNat = a + p := by omega
    rw [e1, e2, t3, t5 _ (by omega)]
    have zr := zWin_r (i + p) (by omega)
    have tr := t4 (a + p)
    refine ⟨by omega, ⟨by unfold zR; omega, by unfold zR; omega⟩, fun q3 => ?_, fun q3 => ?_⟩
    · refine ⟨99900 - 200 * i - (p + 1), by omega, rfl, rfl, rfl, i, k, p + 1, rfl, rfl, by omega, hik, by omega, hS, rfl, hw, hj, hz, Or.inr ⟨rfl, fun q4 => ?_⟩, rfl⟩
      rw [wdB_f q3 k (by omega)] at q4
      exact absurd q4.2 (by decide)
    · refine ⟨99900 - 200 * i - (p + 1), by omega, rfl, rfl, rfl, i, k, p + 1, rfl, rfl, by omega, hik, by omega, hS, rfl, hw, hj, hz, Or.inl ⟨rfl, m1, ?_⟩, rfl⟩
      unfold wdB
      rw [m2, q3, Bool.true_and]
      exact beq_self_eq_true _
