/-! a window of readings, two ways round: pure -/
def noV (V : Nat → Nat → Int) (S : Nat → Nat → Prop) : Prop := ∀ p h, S p h → V p h = -10000
def isMost (V : Nat → Nat → Int) (S : Nat → Nat → Prop) (x : Int) : Prop := (∃ p h, S p h ∧ V p h ≠ -10000 ∧ V p h = x) ∧ ∀ p h, S p h → V p h ≠ -10000 → V p h ≤ x
def isLeast (V : Nat → Nat → Int) (S : Nat → Nat → Prop) (x : Int) : Prop := (∃ p h, S p h ∧ V p h ≠ -10000 ∧ V p h = x) ∧ ∀ p h, S p h → V p h ≠ -10000 → x ≤ V p h
def isEarly (V : Nat → Nat → Int) (S : Nat → Nat → Prop) (h0 : Nat) (x : Int) : Prop := (∃ p, S p h0 ∧ V p h0 ≠ -10000 ∧ V p h0 = x) ∧ ∀ p h, S p h → V p h ≠ -10000 → h0 ≤ h ∧ (h = h0 → V p h ≤ x)
def isLate (V : Nat → Nat → Int) (S : Nat → Nat → Prop) (h0 : Nat) (x : Int) : Prop := (∃ p, S p h0 ∧ V p h0 ≠ -10000 ∧ V p h0 = x) ∧ ∀ p h, S p h → V p h ≠ -10000 → h ≤ h0 ∧ (h = h0 → V p h ≤ x)
theorem most_u {V : Nat → Nat → Int} {S : Nat → Nat → Prop} {x y : Int} (h1 : isMost V S x) (h2 : isMost V S y) : x = y := by
  obtain ⟨⟨p, h, a, b, c⟩, d⟩ := h1
  obtain ⟨⟨p', h', a', b', c'⟩, d'⟩ := h2
  have := d p' h' a' b'
  have := d' p h a b
  omega
theorem least_u {V : Nat → Nat → Int} {S : Nat → Nat → Prop} {x y : Int} (h1 : isLeast V S x) (h2 : isLeast V S y) : x = y := by
  obtain ⟨⟨p, h, a, b, c⟩, d⟩ := h1
  obtain ⟨⟨p', h', a', b', c'⟩, d'⟩ := h2
  have := d p' h' a' b'
  have := d' p h a b
  omega
theorem early_u {V : Nat → Nat → Int} {S : Nat → Nat → Prop} {h0 h1 : Nat} {x y : Int} (q1 : isEarly V S h0 x) (q2 : isEarly V S h1 y) : x = y := by
  obtain ⟨⟨p, a, b, c⟩, d⟩ := q1
  obtain ⟨⟨p', a', b', c'⟩, d'⟩ := q2
  obtain ⟨e1, e2⟩ := d p' h1 a' b'
  obtain ⟨f1, f2⟩ := d' p h0 a b
  have : h0 = h1 := by omega
  subst this
  have := e2 rfl
  have := f2 rfl
  omega
theorem late_u {V : Nat → Nat → Int} {S : Nat → Nat → Prop} {h0 h1 : Nat} {x y : Int} (q1 : isLate V S h0 x) (q2 : isLate V S h1 y) : x = y := by
  obtain ⟨⟨p, a, b, c⟩, d⟩ := q1
  obtain ⟨⟨p', a', b', c'⟩, d'⟩ := q2
  obtain ⟨e1, e2⟩ := d p' h1 a' b'
  obtain ⟨f1, f2⟩ := d' p h0 a b
  have : h0 = h1 := by omega
  subst this
  have := e2 rfl
  have := f2 rfl
  omega
theorem no_most {V : Nat → Nat → Int} {S : Nat → Nat → Prop} {x : Int} (h1 : noV V S) (h2 : isMost V S x) : False := by
  obtain ⟨⟨p, h, a, b, c⟩, -⟩ := h2
  exact b (h1 p h a)
/-- one pair more -/
def addP (S : Nat → Nat → Prop) (p h : Nat) : Nat → Nat → Prop := fun p' h' => S p' h' ∨ (p' = p ∧ h' = h)
/-- a tally is of a set of readings -/
def talOk (V : Nat → Nat → Int) (S : Nat → Nat → Prop) (t : Nat → Int) : Prop :=
  (t 1 = 0 ∧ noV V S) ∨ (0 < t 1 ∧ isMost V S (t 3) ∧ isLeast V S (t 4) ∧ (∃ a : Nat, t 5 = (a : Int) ∧ isEarly V S a (t 6)) ∧ (∃ a : Nat, t 7 = (a : Int) ∧ isLate V S a (t 8)))
theorem tal_step {V : Nat → Nat → Int} {S : Nat → Nat → Prop} {t u : Nat → Int} {p h : Nat} (h1 : talOk V S t) (h2 : tadd t u (h : Int) (V p h)) : talOk V (addP S p h) u := by
  unfold tadd at h2
  by_cases hv : V p h = -10000
  · rw [if_pos hv] at h2
    obtain ⟨u0, u1, u2, u3, u4, u5, u6, u7, u8⟩ := h2
    have up : ∀ p' h', addP S p h p' h' → V p' h' ≠ -10000 → S p' h' := by
      rintro p' h' (q | ⟨rfl, rfl⟩) q2
      · exact q
      · exact absurd hv q2
    rcases h1 with ⟨a, b⟩ | ⟨a, b, c, ⟨e, e1, e2⟩, ⟨l, l1, l2⟩⟩
    · refine Or.inl ⟨by omega, ?_⟩
      rintro p' h' (q | ⟨rfl, rfl⟩)
      · exact b p' h' q
      · exact hv
    · refine Or.inr ⟨by omega, ?_, ?_, ⟨e, by omega, ?_⟩, ⟨l, by omega, ?_⟩⟩
      · obtain ⟨⟨p', h', b1, b2, b3⟩, b4⟩ := b
        exact ⟨⟨p', h', Or.inl b1, b2, by omega⟩, fun p1 h1 q1 q2 => by have := b4 p1 h1 (up _ _ q1 q2) q2; omega⟩
      · obtain ⟨⟨p', h', b1, b2, b3⟩, b4⟩ := c
        exact ⟨⟨p', h', Or.inl b1, b2, by omega⟩, fun p1 h1 q1 q2 => by have := b4 p1 h1 (up _ _ q1 q2) q2; omega⟩
      · obtain ⟨⟨p', b1, b2, b3⟩, b4⟩ := e2
        exact ⟨⟨p', Or.inl b1, b2, by omega⟩, fun p1 h1 q1 q2 => by obtain ⟨c1, c2⟩ := b4 p1 h1 (up _ _ q1 q2) q2; exact ⟨c1, fun q3 => by have := c2 q3; omega⟩⟩
      · obtain ⟨⟨p', b1, b2, b3⟩, b4⟩ := l2
        exact ⟨⟨p', Or.inl b1, b2, by omega⟩, fun p1 h1 q1 q2 => by obtain ⟨c1, c2⟩ := b4 p1 h1 (up _ _ q1 q2) q2; exact ⟨c1, fun q3 => by have := c2 q3; omega⟩⟩
  · rw [if_neg hv] at h2
    obtain ⟨u0, u1, u2, u3, u4, u5, u6, u7, u8⟩ := h2
    have me : addP S p h p h := Or.inr ⟨rfl, rfl⟩
    rcases h1 with ⟨a, b⟩ | ⟨a, b, c, ⟨e, e1, e2⟩, ⟨l, l1, l2⟩⟩
    · rw [if_pos (Or.inl a)] at u3 u4 u5 u6 u7 u8
      have only : ∀ p' h', addP S p h p' h' → V p' h' ≠ -10000 → p' = p ∧ h' = h := by
        rintro p' h' (q | q) q2
        · exact absurd (b p' h' q) q2
        · exact q
      refine Or.inr ⟨by omega, ⟨⟨p, h, me, hv, u3.symm⟩, ?_⟩, ⟨⟨p, h, me, hv, u4.symm⟩, ?_⟩, ⟨h, u5, ⟨p, me, hv, u6.symm⟩, ?_⟩, ⟨h, u7, ⟨p, me, hv, u8.symm⟩, ?_⟩⟩
      · intro p' h' q1 q2
        obtain ⟨rfl, rfl⟩ := only p' h' q1 q2
        omega
      · intro p' h' q1 q2
        obtain ⟨rfl, rfl⟩ := only p' h' q1 q2
        omega
      · intro p' h' q1 q2
        obtain ⟨rfl, rfl⟩ := only p' h' q1 q2
        exact ⟨by omega, fun _ => by omega⟩
      · intro p' h' q1 q2
        obtain ⟨rfl, rfl⟩ := only p' h' q1 q2
        exact ⟨by omega, fun _ => by omega⟩
    · have a0 : ¬ t 1 = 0 := by omega
      refine Or.inr ⟨by omega, ?_, ?_, ?_, ?_⟩
      · obtain ⟨⟨p', h', b1, b2, b3⟩, b4⟩ := b
        by_cases k : t 3 < V p h
        · rw [if_pos (Or.inr k)] at u3
          refine ⟨⟨p, h, me, hv, u3.symm⟩, ?_⟩
          rintro p1 h1 (q | ⟨rfl, rfl⟩) q2
          · have := b4 p1 h1 q q2; omega
          · omega
        · rw [if_neg (fun q => q.elim a0 k)] at u3
          refine ⟨⟨p', h', Or.inl b1, b2, by omega⟩, ?_⟩
          rintro p1 h1 (q | ⟨rfl, rfl⟩) q2
          · have := b4 p1 h1 q q2; omega
          · omega
      · obtain ⟨⟨p', h', b1, b2, b3⟩, b4⟩ := c
        by_cases k : V p h < t 4
        · rw [if_pos (Or.inr k)] at u4
          refine ⟨⟨p, h, me, hv, u4.symm⟩, ?_⟩
          rintro p1 h1 (q | ⟨rfl, rfl⟩) q2
          · have := b4 p1 h1 q q2; omega
          · omega
        · rw [if_neg (fun q => q.elim a0 k)] at u4
          refine ⟨⟨p', h', Or.inl b1, b2, by omega⟩, ?_⟩
          rintro p1 h1 (q | ⟨rfl, rfl⟩) q2
          · have := b4 p1 h1 q q2; omega
          · omega
      · obtain ⟨⟨p', b1, b2, b3⟩, b4⟩ := e2
        by_cases k : (h : Int) < t 5 ∨ ((h : Int) = t 5 ∧ t 6 < V p h)
        · rw [if_pos (Or.inr k)] at u5 u6
          refine ⟨h, u5, ⟨p, me, hv, u6.symm⟩, ?_⟩
          rintro p1 h1 (q | ⟨rfl, rfl⟩) q2
          · obtain ⟨c1, c2⟩ := b4 p1 h1 q q2
            refine ⟨by omega, fun q3 => ?_⟩
            by_cases q4 : h1 = e
            · have := c2 q4; omega
            · omega
          · exact ⟨by omega, fun _ => by omega⟩
        · rw [if_neg (fun q => q.elim a0 k)] at u5 u6
          refine ⟨e, by omega, ⟨p', Or.inl b1, b2, by omega⟩, ?_⟩
          rintro p1 h1 (q | ⟨rfl, rfl⟩) q2
          · obtain ⟨c1, c2⟩ := b4 p1 h1 q q2
            exact ⟨c1, fun q3 => by have := c2 q3; omega⟩
          · exact ⟨by omega, fun _ => by omega⟩
      · obtain ⟨⟨p', b1, b2, b3⟩, b4⟩ := l2
        by_cases k : t 7 < (h : Int) ∨ ((h : Int) = t 7 ∧ t 8 < V p h)
        · rw [if_pos (Or.inr k)] at u7 u8
          refine ⟨h, u7, ⟨p, me, hv, u8.symm⟩, ?_⟩
          rintro p1 h1 (q | ⟨rfl, rfl⟩) q2
          · obtain ⟨c1, c2⟩ := b4 p1 h1 q q2
            refine ⟨by omega, fun q3 => ?_⟩
            by_cases q4 : h1 = l
            · have := c2 q4; omega
            · omega
          · exact ⟨by omega, fun _ => by omega⟩
        · rw [if_neg (fun q => q.elim a0 k)] at u7 u8
          refine ⟨l, by omega, ⟨p', Or.inl b1, b2, by omega⟩, ?_⟩
          rintro p1 h1 (q | ⟨rfl, rfl⟩) q2
          · obtain ⟨c1, c2⟩ := b4 p1 h1 q q2
            exact ⟨c1, fun q3 => by have := c2 q3; omega⟩
          · exact ⟨by omega, fun _ => by omega⟩
theorem tal_congr {V : Nat → Nat → Int} {S S' : Nat → Nat → Prop} {t : Nat → Int} (e : ∀ p h, S p h ↔ S' p h) (h : talOk V S t) : talOk V S' t := by
  have : S = S' := funext fun p => funext fun h => propext (e p h)
  rw [← this]
  exact h
