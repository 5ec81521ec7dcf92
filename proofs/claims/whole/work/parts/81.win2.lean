/-! a window of readings: the reference's way -/
def mOk (V : Nat → Nat → Int) (S : Nat → Nat → Prop) (x : Int) : Prop := (noV V S ∧ x = NV) ∨ isMost V S x
def lOk (V : Nat → Nat → Int) (S : Nat → Nat → Prop) (x : Int) : Prop := (noV V S ∧ x = NV) ∨ isLeast V S x
def eOk (V : Nat → Nat → Int) (S : Nat → Nat → Prop) (x : Int) : Prop := (noV V S ∧ x = NV) ∨ ∃ a, isEarly V S a x
def laOk (V : Nat → Nat → Int) (S : Nat → Nat → Prop) (x : Int) : Prop := (noV V S ∧ x = NV) ∨ ∃ a, isLate V S a x
theorem m_nv {V : Nat → Nat → Int} {S : Nat → Nat → Prop} {x : Int} (hV : ∀ p h, -10000 ≤ V p h) (h : isMost V S x) : x ≠ NV := by
  obtain ⟨⟨p, h', a, b, c⟩, -⟩ := h
  have := hV p h'
  unfold NV
  omega
theorem l_nv {V : Nat → Nat → Int} {S : Nat → Nat → Prop} {x : Int} (hV : ∀ p h, -10000 ≤ V p h) (h : isLeast V S x) : x ≠ NV := by
  obtain ⟨⟨p, h', a, b, c⟩, -⟩ := h
  have := hV p h'
  unfold NV
  omega
theorem m_skip {V : Nat → Nat → Int} {S : Nat → Nat → Prop} {x : Int} {p h : Nat} (hv : V p h = -10000) (q : mOk V S x) : mOk V (addP S p h) x := by
  rcases q with ⟨a, b⟩ | ⟨⟨p', h', b1, b2, b3⟩, b4⟩
  · refine Or.inl ⟨?_, b⟩
    rintro p1 h1 (q | ⟨rfl, rfl⟩)
    · exact a p1 h1 q
    · exact hv
  · refine Or.inr ⟨⟨p', h', Or.inl b1, b2, b3⟩, ?_⟩
    rintro p1 h1 (q | ⟨rfl, rfl⟩) q2
    · exact b4 p1 h1 q q2
    · exact absurd hv q2
theorem l_skip {V : Nat → Nat → Int} {S : Nat → Nat → Prop} {x : Int} {p h : Nat} (hv : V p h = -10000) (q : lOk V S x) : lOk V (addP S p h) x := by
  rcases q with ⟨a, b⟩ | ⟨⟨p', h', b1, b2, b3⟩, b4⟩
  · refine Or.inl ⟨?_, b⟩
    rintro p1 h1 (q | ⟨rfl, rfl⟩)
    · exact a p1 h1 q
    · exact hv
  · refine Or.inr ⟨⟨p', h', Or.inl b1, b2, b3⟩, ?_⟩
    rintro p1 h1 (q | ⟨rfl, rfl⟩) q2
    · exact b4 p1 h1 q q2
    · exact absurd hv q2
theorem m_step {V : Nat → Nat → Int} {S : Nat → Nat → Prop} {x : Int} {p h : Nat} (hV : ∀ p h, -10000 ≤ V p h) (hv : V p h ≠ -10000) (q : mOk V S x) : mOk V (addP S p h) (gtN x (V p h)) := by
  have me : addP S p h p h := Or.inr ⟨rfl, rfl⟩
  unfold gtN
  rcases q with ⟨a, b⟩ | b
  · rw [if_pos (Or.inl b)]
    refine Or.inr ⟨⟨p, h, me, hv, rfl⟩, ?_⟩
    rintro p1 h1 (q | ⟨rfl, rfl⟩) q2
    · exact absurd (a p1 h1 q) q2
    · exact Int.le_refl _
  · have nv := m_nv hV b
    obtain ⟨⟨p', h', b1, b2, b3⟩, b4⟩ := b
    by_cases k : x < V p h
    · rw [if_pos (Or.inr k)]
      refine Or.inr ⟨⟨p, h, me, hv, rfl⟩, ?_⟩
      rintro p1 h1 (q | ⟨rfl, rfl⟩) q2
      · have := b4 p1 h1 q q2; omega
      · exact Int.le_refl _
    · rw [if_neg (fun q => q.elim nv k)]
      refine Or.inr ⟨⟨p', h', Or.inl b1, b2, b3⟩, ?_⟩
      rintro p1 h1 (q | ⟨rfl, rfl⟩) q2
      · exact b4 p1 h1 q q2
      · omega
theorem l_step {V : Nat → Nat → Int} {S : Nat → Nat → Prop} {x : Int} {p h : Nat} (hV : ∀ p h, -10000 ≤ V p h) (hv : V p h ≠ -10000) (q : lOk V S x) : lOk V (addP S p h) (ltN x (V p h)) := by
  have me : addP S p h p h := Or.inr ⟨rfl, rfl⟩
  unfold ltN
  rcases q with ⟨a, b⟩ | b
  · rw [if_pos (Or.inl b)]
    refine Or.inr ⟨⟨p, h, me, hv, rfl⟩, ?_⟩
    rintro p1 h1 (q | ⟨rfl, rfl⟩) q2
    · exact absurd (a p1 h1 q) q2
    · exact Int.le_refl _
  · have nv := l_nv hV b
    obtain ⟨⟨p', h', b1, b2, b3⟩, b4⟩ := b
    by_cases k : V p h < x
    · rw [if_pos (Or.inr k)]
      refine Or.inr ⟨⟨p, h, me, hv, rfl⟩, ?_⟩
      rintro p1 h1 (q | ⟨rfl, rfl⟩) q2
      · have := b4 p1 h1 q q2; omega
      · exact Int.le_refl _
    · rw [if_neg (fun q => q.elim nv k)]
      refine Or.inr ⟨⟨p', h', Or.inl b1, b2, b3⟩, ?_⟩
      rintro p1 h1 (q | ⟨rfl, rfl⟩) q2
      · exact b4 p1 h1 q q2
      · omega
/-- the hours before, and one more hour -/
def addH (S H : Nat → Nat → Prop) : Nat → Nat → Prop := fun p h => S p h ∨ H p h
theorem la_hour {V : Nat → Nat → Int} {S H : Nat → Nat → Prop} {la he : Int} {hr : Nat} (hV : ∀ p h, -10000 ≤ V p h) (hS : ∀ p h, S p h → h < hr) (hH : ∀ p h, H p h → h = hr) (q1 : laOk V S la) (q2 : mOk V H he) : laOk V (addH S H) (if he = NV then la else he) := by
  rcases q2 with ⟨a, b⟩ | b
  · rw [if_pos b]
    rcases q1 with ⟨c, d⟩ | ⟨x, ⟨p', b1, b2, b3⟩, b4⟩
    · exact Or.inl ⟨fun p h q => q.elim (c p h) (a p h), d⟩
    · refine Or.inr ⟨x, ⟨p', Or.inl b1, b2, b3⟩, ?_⟩
      rintro p h (q | q) q2
      · exact b4 p h q q2
      · exact absurd (a p h q) q2
  · rw [if_neg (m_nv hV b)]
    obtain ⟨⟨p', h', b1, b2, b3⟩, b4⟩ := b
    have e := hH p' h' b1
    subst e
    refine Or.inr ⟨h', ⟨p', Or.inr b1, b2, b3⟩, ?_⟩
    rintro p h (q | q) q2
    · have := hS p h q
      exact ⟨by omega, fun q3 => by omega⟩
    · have e2 := hH p h q
      exact ⟨by omega, fun _ => b4 p h q q2⟩
theorem e_hour {V : Nat → Nat → Int} {S H : Nat → Nat → Prop} {ea he : Int} {hr : Nat} (hV : ∀ p h, -10000 ≤ V p h) (hS : ∀ p h, S p h → h < hr) (hH : ∀ p h, H p h → h = hr) (q1 : eOk V S ea) (q2 : mOk V H he) : eOk V (addH S H) (if he = NV then ea else if ea = NV then he else ea) := by
  have env : ∀ a, isEarly V S a ea → ea ≠ NV := by
    rintro a ⟨⟨p, c1, c2, c3⟩, -⟩
    have := hV p a
    unfold NV
    omega
  rcases q2 with ⟨a, b⟩ | b
  · rw [if_pos b]
    rcases q1 with ⟨c, d⟩ | ⟨x, ⟨p', b1, b2, b3⟩, b4⟩
    · exact Or.inl ⟨fun p h q => q.elim (c p h) (a p h), d⟩
    · refine Or.inr ⟨x, ⟨p', Or.inl b1, b2, b3⟩, ?_⟩
      rintro p h (q | q) q2
      · exact b4 p h q q2
      · exact absurd (a p h q) q2
  · rw [if_neg (m_nv hV b)]
    rcases q1 with ⟨c, d⟩ | ⟨x, ex⟩
    · rw [if_pos d]
      obtain ⟨⟨p', h', b1, b2, b3⟩, b4⟩ := b
      have e := hH p' h' b1
      subst e
      refine Or.inr ⟨h', ⟨p', Or.inr b1, b2, b3⟩, ?_⟩
      rintro p h (q | q) q2
      · exact absurd (c p h q) q2
      · have e2 := hH p h q
        exact ⟨by omega, fun _ => b4 p h q q2⟩
    · rw [if_neg (env x ex)]
      obtain ⟨⟨p', b1, b2, b3⟩, b4⟩ := ex
      have lt := hS p' x b1
      refine Or.inr ⟨x, ⟨p', Or.inl b1, b2, b3⟩, ?_⟩
      rintro p h (q | q) q2
      · exact b4 p h q q2
      · have e2 := hH p h q
        exact ⟨by omega, fun q3 => by omega⟩
/-- the readings known, as one function -/
def vl (x : Int) : Int := if x = -10000 then 0 else x
def prs (x : Int) : Int := if x = -10000 then 0 else 1
def abz (x : Int) : Int := if x = -10000 then 1 else 0
/-- the places of a window: the first m hours from low on, and of the next hour the first n posts -/
def wS (K : Nat → Int) (ov : Int) (low m np n : Nat) : Nat → Nat → Prop := fun p h => K p = ov ∧ low ≤ h ∧ ((h < low + m ∧ p < np) ∨ (h = low + m ∧ p < n))
def wHr (K : Nat → Int) (ov : Int) (hr n : Nat) : Nat → Nat → Prop := fun p h => K p = ov ∧ h = hr ∧ p < n
def hsum (g : Int → Int) (K : Nat → Int) (ov : Int) (V : Nat → Nat → Int) (hr n : Nat) : Int := sm n (fun p => if K p = ov then g (V p hr) else 0)
def wsum (g : Int → Int) (K : Nat → Int) (ov : Int) (V : Nat → Nat → Int) (low np m : Nat) : Int := sm m (fun i => hsum g K ov V (low + i) np)
def vsOf (M : zM) (V : Nat → Nat → Int) (np : Nat) : Prop := ∀ p h : Nat, p < np → h < 100 → (M 110 (100 * p + h) = 0 ∧ V p h = -10000) ∨ (¬ M 110 (100 * p + h) = 0 ∧ V p h = M 111 (100 * p + h) ∧ V p h ≠ -10000)
theorem wP_ok {M : zM} {V : Nat → Nat → Int} {ov : Int} {low m np : Nat} {s : Int × Int × Int × Int × Int × Int} (hV : ∀ p h, -10000 ≤ V p h) (hM : vsOf M V np) (hl : low + m < 100)
    (h1 : mOk V (wS (M 104) ov low m np 0) s.2.2.2.1) (h2 : lOk V (wS (M 104) ov low m np 0) s.2.2.2.2.1) (h3 : s.2.2.2.2.2 = NV) (n : Nat) (hn : n ≤ np) :
    (wP M ov ((low + m : Nat) : Int) s n).1 = s.1 + hsum prs (M 104) ov V (low + m) n ∧ (wP M ov ((low + m : Nat) : Int) s n).2.1 = s.2.1 + hsum abz (M 104) ov V (low + m) n ∧ (wP M ov ((low + m : Nat) : Int) s n).2.2.1 = s.2.2.1 + hsum vl (M 104) ov V (low + m) n ∧
    mOk V (wS (M 104) ov low m np n) (wP M ov ((low + m : Nat) : Int) s n).2.2.2.1 ∧ lOk V (wS (M 104) ov low m np n) (wP M ov ((low + m : Nat) : Int) s n).2.2.2.2.1 ∧ mOk V (wHr (M 104) ov (low + m) n) (wP M ov ((low + m : Nat) : Int) s n).2.2.2.2.2 := by
  induction n with
  | zero => exact ⟨by show s.1 = s.1 + 0; omega, by show s.2.1 = s.2.1 + 0; omega, by show s.2.2.1 = s.2.2.1 + 0; omega, h1, h2, Or.inl ⟨fun p h q => absurd q.2.2 (by omega), h3⟩⟩
  | succ n ih =>
    obtain ⟨i1, i2, i3, i4, i5, i6⟩ := ih (by omega)
    have us : ∀ g, hsum g (M 104) ov V (low + m) (n + 1) = hsum g (M 104) ov V (low + m) n + (if M 104 n = ov then g (V n (low + m)) else 0) := fun g => rfl
    have ix : (100 * (n : Int) + ((low + m : Nat) : Int)).toNat = 100 * n + (low + m) := by omega
    have un : wP M ov ((low + m : Nat) : Int) s (n + 1) = if M 104 n = ov then
      if M 110 (100 * n + (low + m)) = 0 then ((wP M ov ((low + m : Nat) : Int) s n).1, (wP M ov ((low + m : Nat) : Int) s n).2.1 + 1, (wP M ov ((low + m : Nat) : Int) s n).2.2)
      else ((wP M ov ((low + m : Nat) : Int) s n).1 + 1, (wP M ov ((low + m : Nat) : Int) s n).2.1, (wP M ov ((low + m : Nat) : Int) s n).2.2.1 + M 111 (100 * n + (low + m)), gtN (wP M ov ((low + m : Nat) : Int) s n).2.2.2.1 (M 111 (100 * n + (low + m))), ltN (wP M ov ((low + m : Nat) : Int) s n).2.2.2.2.1 (M 111 (100 * n + (low + m))), gtN (wP M ov ((low + m : Nat) : Int) s n).2.2.2.2.2 (M 111 (100 * n + (low + m))))
      else wP M ov ((low + m : Nat) : Int) s n := by rw [← ix]; rfl
    generalize wP M ov ((low + m : Nat) : Int) s n = t at *
    rw [un, us, us, us]
    by_cases k : M 104 n = ov
    · have eS : wS (M 104) ov low m np (n + 1) = addP (wS (M 104) ov low m np n) n (low + m) := by
        funext p h
        apply propext
        unfold wS addP
        constructor
        · rintro ⟨a, b, c | ⟨c, d⟩⟩
          · exact Or.inl ⟨a, b, Or.inl c⟩
          · by_cases e : p = n
            · exact Or.inr ⟨e, c⟩
            · exact Or.inl ⟨a, b, Or.inr ⟨c, by omega⟩⟩
        · rintro (⟨a, b, c | ⟨c, d⟩⟩ | ⟨rfl, rfl⟩)
          · exact ⟨a, b, Or.inl c⟩
          · exact ⟨a, b, Or.inr ⟨c, by omega⟩⟩
          · exact ⟨k, by omega, Or.inr ⟨rfl, by omega⟩⟩
      have eH : wHr (M 104) ov (low + m) (n + 1) = addP (wHr (M 104) ov (low + m) n) n (low + m) := by
        funext p h
        apply propext
        unfold wHr addP
        constructor
        · rintro ⟨a, b, c⟩
          by_cases e : p = n
          · exact Or.inr ⟨e, b⟩
          · exact Or.inl ⟨a, b, by omega⟩
        · rintro (⟨a, b, c⟩ | ⟨rfl, rfl⟩)
          · exact ⟨a, b, by omega⟩
          · exact ⟨k, rfl, by omega⟩
      rw [if_pos k, if_pos k, if_pos k, if_pos k, eS, eH]
      rcases hM n (low + m) (by omega) hl with ⟨a, b⟩ | ⟨a, b, c⟩
      · rw [if_pos a]
        refine ⟨?_, ?_, ?_, m_skip b i4, l_skip b i5, m_skip b i6⟩
        · show t.1 = _; rw [b, show prs (-10000) = 0 from rfl]; omega
        · show t.2.1 + 1 = _; rw [b, show abz (-10000) = 1 from rfl]; omega
        · show t.2.2.1 = _; rw [b, show vl (-10000) = 0 from rfl]; omega
      · rw [if_neg a, ← b]
        refine ⟨?_, ?_, ?_, m_step hV c i4, l_step hV c i5, m_step hV c i6⟩
        · show t.1 + 1 = _; rw [show prs (V n (low + m)) = 1 from if_neg c]; omega
        · show t.2.1 = _; rw [show abz (V n (low + m)) = 0 from if_neg c]; omega
        · show t.2.2.1 + V n (low + m) = _; rw [show vl (V n (low + m)) = V n (low + m) from if_neg c]; omega
    · have eS : wS (M 104) ov low m np (n + 1) = wS (M 104) ov low m np n := by
        funext p h
        apply propext
        unfold wS
        constructor
        · rintro ⟨a, b, c | ⟨c, d⟩⟩
          · exact ⟨a, b, Or.inl c⟩
          · by_cases e : p = n
            · subst e; exact absurd a k
            · exact ⟨a, b, Or.inr ⟨c, by omega⟩⟩
        · rintro ⟨a, b, c | ⟨c, d⟩⟩
          · exact ⟨a, b, Or.inl c⟩
          · exact ⟨a, b, Or.inr ⟨c, by omega⟩⟩
      have eH : wHr (M 104) ov (low + m) (n + 1) = wHr (M 104) ov (low + m) n := by
        funext p h
        apply propext
        unfold wHr
        constructor
        · rintro ⟨a, b, c⟩
          by_cases e : p = n
          · subst e; exact absurd a k
          · exact ⟨a, b, by omega⟩
        · rintro ⟨a, b, c⟩
          exact ⟨a, b, by omega⟩
      rw [if_neg k, if_neg k, if_neg k, if_neg k, eS, eH]
      exact ⟨by omega, by omega, by omega, i4, i5, i6⟩
theorem wH_ok {M : zM} {V : Nat → Nat → Int} {ov : Int} {low np : Nat} (hV : ∀ p h, -10000 ≤ V p h) (hM : vsOf M V np) (m : Nat) (hl : low + m ≤ 100) :
    (wH M ov (low : Int) np m).1 = wsum prs (M 104) ov V low np m ∧ (wH M ov (low : Int) np m).2.1 = wsum abz (M 104) ov V low np m ∧ (wH M ov (low : Int) np m).2.2.1 = wsum vl (M 104) ov V low np m ∧
    mOk V (wS (M 104) ov low m np 0) (wH M ov (low : Int) np m).2.2.2.1 ∧ lOk V (wS (M 104) ov low m np 0) (wH M ov (low : Int) np m).2.2.2.2.1 ∧ eOk V (wS (M 104) ov low m np 0) (wH M ov (low : Int) np m).2.2.2.2.2.1 ∧ laOk V (wS (M 104) ov low m np 0) (wH M ov (low : Int) np m).2.2.2.2.2.2 := by
  induction m with
  | zero =>
    have no : noV V (wS (M 104) ov low 0 np 0) := fun p h q => by
      obtain ⟨a, b, c | c⟩ := q <;> omega
    exact ⟨rfl, rfl, rfl, Or.inl ⟨no, rfl⟩, Or.inl ⟨no, rfl⟩, Or.inl ⟨no, rfl⟩, Or.inl ⟨no, rfl⟩⟩
  | succ m ih =>
    obtain ⟨i1, i2, i3, i4, i5, i6, i7⟩ := ih (by omega)
    have us : ∀ g, wsum g (M 104) ov V low np (m + 1) = wsum g (M 104) ov V low np m + hsum g (M 104) ov V (low + m) np := fun g => rfl
    have un : wH M ov (low : Int) np (m + 1) = (fun (t : Int × Int × Int × Int × Int × Int × Int) (u : Int × Int × Int × Int × Int × Int) => (u.1, u.2.1, u.2.2.1, u.2.2.2.1, u.2.2.2.2.1, (if u.2.2.2.2.2 = NV then t.2.2.2.2.2.1 else if t.2.2.2.2.2.1 = NV then u.2.2.2.2.2 else t.2.2.2.2.2.1), (if u.2.2.2.2.2 = NV then t.2.2.2.2.2.2 else u.2.2.2.2.2))) (wH M ov (low : Int) np m) (wP M ov ((low + m : Nat) : Int) ((wH M ov (low : Int) np m).1, (wH M ov (low : Int) np m).2.1, (wH M ov (low : Int) np m).2.2.1, (wH M ov (low : Int) np m).2.2.2.1, (wH M ov (low : Int) np m).2.2.2.2.1, NV) np) := by
      rw [show ((low + m : Nat) : Int) = (low : Int) + (m : Int) by omega]
      rfl
    generalize wH M ov (low : Int) np m = t at *
    obtain ⟨j1, j2, j3, j4, j5, j6⟩ := wP_ok (s := (t.1, t.2.1, t.2.2.1, t.2.2.2.1, t.2.2.2.2.1, NV)) (ov := ov) hV hM (by omega) i4 i5 rfl np (Nat.le_refl _)
    generalize wP M ov ((low + m : Nat) : Int) (t.1, t.2.1, t.2.2.1, t.2.2.2.1, t.2.2.2.2.1, NV) np = u at *
    have eS : wS (M 104) ov low (m + 1) np 0 = wS (M 104) ov low m np np := by
      funext p h
      apply propext
      unfold wS
      constructor
      · rintro ⟨a, b, ⟨c, d⟩ | ⟨c, d⟩⟩
        · by_cases e : h = low + m
          · exact ⟨a, b, Or.inr ⟨e, d⟩⟩
          · exact ⟨a, b, Or.inl ⟨by omega, d⟩⟩
        · omega
      · rintro ⟨a, b, ⟨c, d⟩ | ⟨c, d⟩⟩
        · exact ⟨a, b, Or.inl ⟨by omega, d⟩⟩
        · exact ⟨a, b, Or.inl ⟨by omega, d⟩⟩
    have eA : wS (M 104) ov low m np np = addH (wS (M 104) ov low m np 0) (wHr (M 104) ov (low + m) np) := by
      funext p h
      apply propext
      unfold wS addH wHr
      constructor
      · rintro ⟨a, b, c | ⟨c, d⟩⟩
        · exact Or.inl ⟨a, b, Or.inl c⟩
        · exact Or.inr ⟨a, c, d⟩
      · rintro (⟨a, b, c | ⟨c, d⟩⟩ | ⟨a, b, c⟩)
        · exact ⟨a, b, Or.inl c⟩
        · omega
        · exact ⟨a, by omega, Or.inr ⟨b, c⟩⟩
    have hS : ∀ p h, wS (M 104) ov low m np 0 p h → h < low + m := by
      rintro p h ⟨a, b, ⟨c, d⟩ | ⟨c, d⟩⟩
      · exact c
      · omega
    have hH : ∀ p h, wHr (M 104) ov (low + m) np p h → h = low + m := fun p h q => q.2.1
    rw [un, us, us, us, eS]
    refine ⟨?_, ?_, ?_, j4, j5, ?_, ?_⟩
    · show u.1 = _; rw [j1]; show t.1 + _ = _; rw [i1]
    · show u.2.1 = _; rw [j2]; show t.2.1 + _ = _; rw [i2]
    · show u.2.2.1 = _; rw [j3]; show t.2.2.1 + _ = _; rw [i3]
    · rw [eA]; exact e_hour hV hS hH i6 j6
    · rw [eA]; exact la_hour hV hS hH i7 j6
