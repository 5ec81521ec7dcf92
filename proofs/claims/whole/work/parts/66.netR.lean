/-! the arcs of a world: as one list, and how the reference lays them -/
abbrev Arcs := List (Nat × Nat × Int)
def bgn (M : zM) (w : Nat) : Int := if M 132 w < 12 then 0 else M 132 w - 12
def fns (M : zM) (w : Nat) : Int := M 132 w + 12
def tillC (M : zM) (sc : Nat → Int) (w : Nat) (c : Int) : Int := if c = -1 then M 132 w + 12 else M 132 w + sc c.toNat - 1
def tillP (M : zM) (sc : Nat → Int) (w p : Nat) : Int := if M 142 p = 0 then M 132 w + 12 else M 132 w + sc (M 143 p).toNat - 1
def hrA (p : Nat) (b tl : Int) : Nat → Arcs
  | 0 => []
  | i + 1 => hrA p b tl i ++ (if b + i + 1 ≤ tl then [(25 * p + i, 25 * p + i + 1, 1000000)] else [])
def skA (M : zM) (sc : Nat → Int) (w p : Nat) : Arcs := if tillP M sc w p = fns M w then [(25 * p + (fns M w - bgn M w).toNat, 401, if M 142 p = 0 then M 147 p else 1000000)] else []
def brA (M : zM) (sc wf : Nat → Int) (w p : Nat) : Arcs := if M 142 p = 1 ∧ wf p ≠ -1 ∧ wf p ≤ fns M w ∧ (if wf p < bgn M w then bgn M w else wf p) ≤ tillP M sc w p then [(400, 25 * p + ((if wf p < bgn M w then bgn M w else wf p) - bgn M w).toNat, M 144 p)] else []
def plA (M : zM) (sc wf : Nat → Int) (w p : Nat) : Arcs := hrA p (bgn M w) (tillP M sc w p) (fns M w - bgn M w).toNat ++ skA M sc w p ++ brA M sc wf w p
def plsA (M : zM) (sc wf : Nat → Int) (w : Nat) : Nat → Arcs
  | 0 => []
  | p + 1 => plsA M sc wf w p ++ plA M sc wf w p
abbrev rdOn (M : zM) (sc : Nat → Int) (w r : Nat) (h : Int) : Prop := Int.tmod h (M 152 r) = 0 ∧ h ≤ tillP M sc w (M 148 r).toNat ∧ h + M 150 r ≤ tillP M sc w (M 149 r).toNat ∧ h + M 150 r ≤ tillC M sc w (M 153 r)
def rdA (M : zM) (sc : Nat → Int) (w r : Nat) : Nat → Arcs
  | 0 => []
  | i + 1 => rdA M sc w r i ++ (if rdOn M sc w r (bgn M w + i) then [(25 * (M 148 r).toNat + i, 25 * (M 149 r).toNat + i + (M 150 r).toNat, M 151 r)] else [])
def rdsA (M : zM) (sc : Nat → Int) (w : Nat) : Nat → Arcs
  | 0 => []
  | r + 1 => rdsA M sc w r ++ rdA M sc w r (fns M w - bgn M w).toNat
def netL (M : zM) (sc wf : Nat → Int) (w : Nat) : Arcs := plsA M sc wf w (M 102 69).toNat ++ rdsA M sc w (M 102 76).toNat
def styF (M : zM) (sc wf : Nat → Int) (w : Nat) : Nat → Int
  | 0 => 0
  | p + 1 => styF M sc wf w p + (if M 142 p = 1 ∧ (wf p = -1 ∨ fns M w < wf p) ∧ tillP M sc w p = fns M w then M 144 p else 0)
theorem hrA_len (p : Nat) (b tl : Int) (i : Nat) : (hrA p b tl i).length ≤ i := by
  induction i with
  | zero => exact Nat.le_refl _
  | succ i ih =>
    show (hrA p b tl i ++ _).length ≤ _
    rw [List.length_append]
    split <;> simp <;> omega
theorem bf_r {M : zM} {w : Nat} (h : 0 ≤ M 132 w ∧ M 132 w ≤ 99) : (0 ≤ bgn M w ∧ bgn M w ≤ 99) ∧ (fns M w - bgn M w).toNat ≤ 24 ∧ bgn M w + ((fns M w - bgn M w).toNat : Int) = fns M w ∧ (12 ≤ fns M w ∧ fns M w ≤ 111) := by
  unfold bgn fns
  split <;> omega
theorem plA_len {M : zM} {sc wf : Nat → Int} {w : Nat} (h : 0 ≤ M 132 w ∧ M 132 w ≤ 99) (p : Nat) : (plA M sc wf w p).length ≤ 26 := by
  have := hrA_len p (bgn M w) (tillP M sc w p) (fns M w - bgn M w).toNat
  have := bf_r h
  have h1 : (skA M sc w p).length ≤ 1 := by
    unfold skA
    by_cases q : tillP M sc w p = fns M w
    · rw [if_pos q]; exact Nat.le_refl _
    · rw [if_neg q]; exact Nat.zero_le _
  have h2 : (brA M sc wf w p).length ≤ 1 := by
    unfold brA
    generalize (if wf p < bgn M w then bgn M w else wf p) = z
    by_cases q : M 142 p = 1 ∧ wf p ≠ -1 ∧ wf p ≤ fns M w ∧ z ≤ tillP M sc w p
    · rw [if_pos q]; exact Nat.le_refl _
    · rw [if_neg q]; exact Nat.zero_le _
  unfold plA
  rw [List.length_append, List.length_append]
  omega
theorem plsA_len {M : zM} {sc wf : Nat → Int} {w : Nat} (h : 0 ≤ M 132 w ∧ M 132 w ≤ 99) (p : Nat) : (plsA M sc wf w p).length ≤ 26 * p := by
  induction p with
  | zero => exact Nat.le_refl _
  | succ p ih =>
    have := plA_len (sc := sc) (wf := wf) h p
    show (plsA M sc wf w p ++ plA M sc wf w p).length ≤ _
    rw [List.length_append]
    omega
theorem rdA_len (M : zM) (sc : Nat → Int) (w r i : Nat) : (rdA M sc w r i).length ≤ i := by
  induction i with
  | zero => exact Nat.le_refl _
  | succ i ih =>
    show (rdA M sc w r i ++ _).length ≤ _
    rw [List.length_append]
    split <;> simp <;> omega
theorem rdsA_len {M : zM} {sc : Nat → Int} {w : Nat} (h : 0 ≤ M 132 w ∧ M 132 w ≤ 99) (r : Nat) : (rdsA M sc w r).length ≤ 24 * r := by
  induction r with
  | zero => exact Nat.le_refl _
  | succ r ih =>
    have := rdA_len M sc w r (fns M w - bgn M w).toNat
    have := bf_r h
    show (rdsA M sc w r ++ rdA M sc w r _).length ≤ _
    rw [List.length_append]
    omega
theorem netL_len {M : zM} {sc wf : Nat → Int} {w : Nat} (h : 0 ≤ M 132 w ∧ M 132 w ≤ 99) (hp : M 102 69 ≤ 8) (hr : M 102 76 ≤ 14) : (netL M sc wf w).length ≤ 544 := by
  have := plsA_len (sc := sc) (wf := wf) h (M 102 69).toNat
  have := rdsA_len (sc := sc) h (M 102 76).toNat
  unfold netL
  rw [List.length_append]
  omega
/-- the reference's rows hold these arcs, all of them free -/
def aR (M : zM) (L : Arcs) : Prop := M 102 85 = (L.length : Int) ∧ ∀ (a : Nat) (t : Nat × Nat × Int), L[a]? = some t → M 156 a = (t.1 : Int) ∧ M 157 a = (t.2.1 : Int) ∧ M 158 a = t.2.2 ∧ M 159 a = 0
/-- what laying may change -/
def dA (x j : Nat) : Bool := [156, 157, 158, 159].contains x || (x == 102 && [85, 92, 93, 94].contains j)
/-- what one arc may change -/
def dB (x j : Nat) : Bool := [156, 157, 158, 159].contains x || (x == 102 && [85].contains j)
theorem fr_up {d : Nat → Nat → Bool} {M : zM} {a i : Nat} {v : Int} (hd : d a i = true) : ∀ x j, d x j = false → zup M a i v x j = M x j := by
  intro x j hx
  rw [zup_r]
  by_cases h1 : x = a
  · subst h1
    by_cases h2 : j = i
    · subst h2
      rw [hx] at hd
      cases hd
    · rw [if_pos rfl, if_neg h2]
  · rw [if_neg h1]
theorem fr_t {d : Nat → Nat → Bool} {M1 M2 M3 : zM} (h1 : ∀ x j, d x j = false → M2 x j = M1 x j) (h2 : ∀ x j, d x j = false → M3 x j = M2 x j) : ∀ x j, d x j = false → M3 x j = M1 x j := fun x j hx => (h2 x j hx).trans (h1 x j hx)
theorem dB_A (x j : Nat) (h : dA x j = false) : dB x j = false := by
  unfold dA at h
  unfold dB
  rw [Bool.or_eq_false_iff] at h ⊢
  refine ⟨h.1, ?_⟩
  have h2 := h.2
  cases hx : (x == 102)
  · rfl
  · rw [hx] at h2
    simp only [Bool.true_and] at h2 ⊢
    cases hj : [85].contains j
    · rfl
    · have : j = 85 := by simpa using hj
      subst this
      cases h2
theorem r_arc {E : zE} {M : zM} {Q : Int → zM → Prop} {L : Arcs} {a b : Nat} {c : Int} (hA : aR M L) (hl : L.length < 1400) (h : ∀ M' : zM, (∀ x j, dB x j = false → M' x j = M x j) → aR M' (L ++ [(a, b, c)]) → Q 0 M') : zP E mX12_arc [.inr (.inr 102), .inl (a : Int), .inl (b : Int), .inl c] M Q := by
  refine vcX12_arc _ _ _ ?_
  obtain ⟨n, rows⟩ := hA
  have hb : 0 ≤ M 102 85 ∧ M 102 85 < 1400 := by omega
  refine ⟨hb, fun M1 h1 => ?_⟩
  have e1 : M1 102 85 = M 102 85 := by rw [h1, zup_ne _ _ _ (by decide)]
  rw [e1]
  refine ⟨hb, fun M2 h2 => ?_⟩
  have e2 : M2 102 85 = M 102 85 := by rw [h2, zup_ne _ _ _ (by decide)]; exact e1
  rw [e2]
  refine ⟨hb, fun M3 h3 => ?_⟩
  have e3 : M3 102 85 = M 102 85 := by rw [h3, zup_ne _ _ _ (by decide)]; exact e2
  rw [e3]
  refine ⟨hb, fun M4 h4 M5 h5 => ?_⟩
  have e4 : M4 102 85 = M 102 85 := by rw [h4, zup_ne _ _ _ (by decide)]; exact e3
  rw [e4, n] at h5
  rw [n, Int.toNat_natCast] at h1 h2 h3 h4
  have k1 : M5 156 = up1 (M 156) L.length (a : Int) := by rw [h5, zup_ne _ _ _ (by decide), h4, zup_ne _ _ _ (by decide), h3, zup_ne _ _ _ (by decide), h2, zup_ne _ _ _ (by decide), h1, zup_a]
  have k2 : M5 157 = up1 (M 157) L.length (b : Int) := by rw [h5, zup_ne _ _ _ (by decide), h4, zup_ne _ _ _ (by decide), h3, zup_ne _ _ _ (by decide), h2, zup_a, h1, zup_ne _ _ _ (by decide)]
  have k3 : M5 158 = up1 (M 158) L.length c := by rw [h5, zup_ne _ _ _ (by decide), h4, zup_ne _ _ _ (by decide), h3, zup_a, h2, zup_ne _ _ _ (by decide), h1, zup_ne _ _ _ (by decide)]
  have k4 : M5 159 = up1 (M 159) L.length 0 := by rw [h5, zup_ne _ _ _ (by decide), h4, zup_a, h3, zup_ne _ _ _ (by decide), h2, zup_ne _ _ _ (by decide), h1, zup_ne _ _ _ (by decide)]
  refine h M5 ?_ ⟨?_, fun i t ht => ?_⟩
  · rw [h5]
    refine fr_t ?_ (fr_up rfl)
    rw [h4]
    refine fr_t ?_ (fr_up (by unfold dB; rfl))
    rw [h3]
    refine fr_t ?_ (fr_up (by unfold dB; rfl))
    rw [h2]
    refine fr_t ?_ (fr_up (by unfold dB; rfl))
    rw [h1]
    exact fr_up (by unfold dB; rfl)
  · rw [h5, zup_a, up1_s, List.length_append, List.length_singleton]
    rfl
  · rw [k1, k2, k3, k4]
    by_cases q : i = L.length
    · subst q
      rw [List.getElem?_append_right (Nat.le_refl _), Nat.sub_self] at ht
      have : (a, b, c) = t := by simpa using ht
      subst this
      rw [up1_s, up1_s, up1_s, up1_s]
      exact ⟨rfl, rfl, rfl, rfl⟩
    · rw [up1_n _ _ q, up1_n _ _ q, up1_n _ _ q, up1_n _ _ q]
      refine rows i t ?_
      by_cases q2 : i < L.length
      · rw [List.getElem?_append_left q2] at ht; exact ht
      · rw [List.getElem?_eq_none (by rw [List.length_append, List.length_singleton]; omega)] at ht
        cases ht
theorem aR_c {M M' : zM} {L : Arcs} (f : ∀ x, x = 156 ∨ x = 157 ∨ x = 158 ∨ x = 159 → M' x = M x) (f2 : M' 102 85 = M 102 85) (h : aR M L) : aR M' L := by
  unfold aR
  rw [f2, f 156 (by simp), f 157 (by simp), f 158 (by simp), f 159 (by simp)]
  exact h
/-- warned in the first hour of so high a level -/
def wat (lv : Nat → Int) (t l : Int) : Nat → Nat → Int
  | _, 0 => -1
  | i, n + 1 => if t ≤ lv i then (i : Int) + l else wat lv t l (i + 1) n
theorem wat_r {lv : Nat → Int} {t l : Int} (hl : 0 ≤ l ∧ l ≤ 5) (i n : Nat) : wat lv t l i n = -1 ∨ (0 ≤ wat lv t l i n ∧ wat lv t l i n ≤ i + n + 4) := by
  induction n generalizing i with
  | zero => exact Or.inl rfl
  | succ n ih =>
    have un : wat lv t l i (n + 1) = if t ≤ lv i then (i : Int) + l else wat lv t l (i + 1) n := rfl
    rw [un]
    split
    · omega
    · have := ih (i + 1)
      omega
theorem r_warnW {E : zE} {M : zM} {Q : Int → zM → Prop} {p : Nat} (hp : p < 8) (hl : ∀ h, h < 100 → zR (M 154 h)) (ht : zR (M 145 p)) (h : Q (wat (M 154) (M 145 p) (M 146 p) 0 100) M) : zP E mX12_warnedAt [.inr (.inr 102), .inl (p : Int)] M Q := by
  refine vcX12_warnedAt _ (fun m l1 l2 M' => M' = M ∧ l1 = (p : Int) ∧ ∃ i : Nat, l2 = (i : Int) ∧ i ≤ 100 ∧ m = 100 - i ∧ wat (M 154) (M 145 p) (M 146 p) i (100 - i) = wat (M 154) (M 145 p) (M 146 p) 0 100) ⟨100, rfl, rfl, 0, rfl, by omega, rfl, rfl⟩ ?_
  rintro m l1 l2 M' ⟨rfl, rfl, i, rfl, hi, rfl, hw⟩
  rw [Int.toNat_natCast, Int.toNat_natCast]
  refine ⟨by unfold zR; omega, fun q => ?_, fun q => ⟨by omega, by omega, ⟨hl i (by omega), ht⟩, fun q2 => ?_, fun q2 => ?_⟩⟩
  · have : i = 100 := by omega
    subst this
    rw [← hw] at h
    exact h
  · refine ⟨100 - (i + 1), by omega, rfl, rfl, i + 1, by omega, by omega, rfl, ?_⟩
    rw [show 100 - i = (100 - (i + 1)) + 1 by omega] at hw
    have un : wat (M' 154) (M' 145 p) (M' 146 p) i (100 - (i + 1) + 1) = if M' 145 p ≤ M' 154 i then (i : Int) + M' 146 p else wat (M' 154) (M' 145 p) (M' 146 p) (i + 1) (100 - (i + 1)) := rfl
    rw [un, if_neg (by omega)] at hw
    exact hw
  · rw [show 100 - i = (100 - (i + 1)) + 1 by omega] at hw
    have un : wat (M' 154) (M' 145 p) (M' 146 p) i (100 - (i + 1) + 1) = if M' 145 p ≤ M' 154 i then (i : Int) + M' 146 p else wat (M' 154) (M' 145 p) (M' 146 p) (i + 1) (100 - (i + 1)) := rfl
    rw [un, if_pos q2] at hw
    rw [← hw] at h
    exact ⟨by omega, h⟩
