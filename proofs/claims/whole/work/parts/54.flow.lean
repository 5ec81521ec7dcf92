/-! flows over a list of arcs: any two that can't be mended have one value and one side of the cut -/
def sm : Nat → (Nat → Int) → Int
  | 0, _ => 0
  | n + 1, f => sm n f + f n
theorem sm_congr {n : Nat} {f g : Nat → Int} (h : ∀ i, i < n → f i = g i) : sm n f = sm n g := by
  induction n with
  | zero => rfl
  | succ n ih => show sm n f + f n = sm n g + g n; rw [ih (fun i hi => h i (by omega)), h n (by omega)]
theorem sm_add (n : Nat) (f g : Nat → Int) : sm n (fun i => f i + g i) = sm n f + sm n g := by
  induction n with
  | zero => rfl
  | succ n ih => show sm n _ + (f n + g n) = (sm n f + f n) + (sm n g + g n); rw [ih]; omega
theorem sm_sub (n : Nat) (f g : Nat → Int) : sm n (fun i => f i - g i) = sm n f - sm n g := by
  induction n with
  | zero => rfl
  | succ n ih => show sm n _ + (f n - g n) = (sm n f + f n) - (sm n g + g n); rw [ih]; omega
theorem sm_zero (n : Nat) : sm n (fun _ => 0) = 0 := by
  induction n with
  | zero => rfl
  | succ n ih => show sm n _ + 0 = 0; rw [ih]; rfl
theorem sm_le {n : Nat} {f g : Nat → Int} (h : ∀ i, i < n → f i ≤ g i) : sm n f ≤ sm n g := by
  induction n with
  | zero => exact Int.le_refl _
  | succ n ih =>
    have h1 := ih (fun i hi => h i (by omega))
    have h2 := h n (by omega)
    show sm n f + f n ≤ sm n g + g n
    omega
theorem sm_eq {n : Nat} {f g : Nat → Int} (h : ∀ i, i < n → f i ≤ g i) (he : sm n f = sm n g) : ∀ i, i < n → f i = g i := by
  induction n with
  | zero => intro i hi; omega
  | succ n ih =>
    have h1 := sm_le (fun i hi => h i (by omega) : ∀ i, i < n → f i ≤ g i)
    have h2 := h n (by omega)
    have he2 : sm n f + f n = sm n g + g n := he
    intro i hi
    by_cases hn : i = n
    · rw [hn]; omega
    · exact ih (fun i hi => h i (by omega)) (by omega) i (by omega)
theorem sm_swap (n m : Nat) (f : Nat → Nat → Int) : sm n (fun i => sm m (fun j => f i j)) = sm m (fun j => sm n (fun i => f i j)) := by
  induction n with
  | zero => show 0 = sm m (fun _ => 0); rw [sm_zero]
  | succ n ih => show sm n _ + sm m _ = sm m (fun j => sm n (fun i => f i j) + f n j); rw [ih, sm_add]
theorem sm_pick (n k : Nat) (c : Int) : sm n (fun v => if k = v then c else 0) = if k < n then c else 0 := by
  induction n with
  | zero => rfl
  | succ n ih =>
    show sm n _ + (if k = n then c else 0) = _
    rw [ih]
    by_cases h1 : k = n
    · rw [if_neg (by omega), if_pos h1, if_pos (by omega)]; omega
    · rw [if_neg h1]
      by_cases h2 : k < n
      · rw [if_pos h2, if_pos (by omega)]; omega
      · rw [if_neg h2, if_neg (by omega)]; omega
def fOut (n : Nat) (fr : Nat → Nat) (x : Nat → Int) (v : Nat) : Int := sm n (fun a => if fr a = v then x a else 0)
/-- a flow of a value over n arcs between N nodes, from s to t -/
def Flow (N s t n : Nat) (fr to : Nat → Nat) (cap x : Nat → Int) (val : Int) : Prop :=
  (∀ a, a < n → (0 ≤ x a ∧ x a ≤ cap a) ∧ fr a < N ∧ to a < N) ∧ (∀ v, v < N → v ≠ s → v ≠ t → fOut n fr x v = fOut n to x v) ∧ fOut n fr x s - fOut n to x s = val
/-- nothing can leave S any more -/
def Shut (n : Nat) (fr to : Nat → Nat) (cap x : Nat → Int) (S : Nat → Bool) : Prop := ∀ a, a < n → (S (fr a) = true → S (to a) = false → x a = cap a) ∧ (S (fr a) = false → S (to a) = true → x a = 0)
def cutF (n : Nat) (fr to : Nat → Nat) (cap : Nat → Int) (S : Nat → Bool) : Int := sm n (fun a => if S (fr a) = true ∧ S (to a) = false then cap a else 0)
theorem sm_side (N n : Nat) (fr : Nat → Nat) (x : Nat → Int) (S : Nat → Bool) (h : ∀ a, a < n → fr a < N) : sm N (fun v => if S v = true then fOut n fr x v else 0) = sm n (fun a => if S (fr a) = true then x a else 0) := by
  have h1 : sm N (fun v => if S v = true then fOut n fr x v else 0) = sm N (fun v => sm n (fun a => if fr a = v then (if S (fr a) = true then x a else 0) else 0)) := by
    refine sm_congr (fun v hv => ?_)
    by_cases hs : S v = true
    · rw [if_pos hs]
      refine sm_congr (fun a ha => ?_)
      by_cases hf : fr a = v
      · rw [if_pos hf, if_pos hf, hf, if_pos hs]
      · rw [if_neg hf, if_neg hf]
    · rw [if_neg hs]
      refine (sm_zero n).symm.trans (sm_congr (fun a ha => ?_))
      by_cases hf : fr a = v
      · rw [if_pos hf, hf, if_neg hs]
      · rw [if_neg hf]
  rw [h1, sm_swap]
  refine sm_congr (fun a ha => ?_)
  rw [sm_pick, if_pos (h a ha)]
theorem flow_side {N s t n : Nat} {fr to : Nat → Nat} {cap x : Nat → Int} {val : Int} (h : Flow N s t n fr to cap x val) (hs : s < N) {S : Nat → Bool} (h1 : S s = true) (h2 : S t = false) :
    sm n (fun a => (if S (fr a) = true then x a else 0) - (if S (to a) = true then x a else 0)) = val := by
  rw [sm_sub, ← sm_side N n fr x S (fun a ha => (h.1 a ha).2.1), ← sm_side N n to x S (fun a ha => (h.1 a ha).2.2), ← sm_sub]
  rw [← h.2.2]
  have : sm N (fun v => if s = v then (fOut n fr x s - fOut n to x s) else 0) = fOut n fr x s - fOut n to x s := by rw [sm_pick, if_pos hs]
  rw [← this]
  refine sm_congr (fun v hv => ?_)
  by_cases hv2 : s = v
  · subst hv2
    rw [if_pos rfl, if_pos h1, if_pos h1]
  · rw [if_neg hv2]
    by_cases hS : S v = true
    · rw [if_pos hS, if_pos hS]
      have ht : v ≠ t := fun e => by rw [e, h2] at hS; cases hS
      have := h.2.1 v hv (fun e => hv2 e.symm) ht
      omega
    · rw [if_neg hS, if_neg hS]; rfl
theorem flow_le {N s t n : Nat} {fr to : Nat → Nat} {cap x : Nat → Int} {val : Int} (h : Flow N s t n fr to cap x val) (hs : s < N) {S : Nat → Bool} (h1 : S s = true) (h2 : S t = false) :
    val ≤ cutF n fr to cap S ∧ (val = cutF n fr to cap S ↔ Shut n fr to cap x S) := by
  have e := flow_side h hs h1 h2
  have hle : ∀ a, a < n → (if S (fr a) = true then x a else 0) - (if S (to a) = true then x a else 0) ≤ (if S (fr a) = true ∧ S (to a) = false then cap a else 0) := by
    intro a ha
    obtain ⟨⟨c1, c2⟩, -⟩ := h.1 a ha
    cases hf : S (fr a) <;> cases ht : S (to a) <;> simp <;> omega
  refine ⟨?_, fun hv => ?_, fun hS => ?_⟩
  · rw [← e]
    exact sm_le hle
  · rw [← e] at hv
    have hq := sm_eq hle hv
    intro a ha
    have := hq a ha
    obtain ⟨⟨c1, c2⟩, -⟩ := h.1 a ha
    cases hf : S (fr a) <;> cases ht : S (to a) <;> simp [hf, ht] at this ⊢ <;> omega
  · rw [← e]
    refine sm_congr (fun a ha => ?_)
    have := hS a ha
    cases hf : S (fr a) <;> cases ht : S (to a) <;> simp [hf, ht] at this ⊢ <;> omega
/-- the side of the source that is reached: shut, and the least such -/
def Least (N s n : Nat) (fr to : Nat → Nat) (cap x : Nat → Int) (S : Nat → Bool) : Prop := ∀ T : Nat → Bool, T s = true → Shut n fr to cap x T → ∀ v, v < N → S v = true → T v = true
theorem flow_one {N s t n n' : Nat} {fr to fr' to' : Nat → Nat} {cap x cap' x' : Nat → Int} {val val' : Int} {S S' : Nat → Bool} (hs : s < N)
    (h : Flow N s t n fr to cap x val) (h' : Flow N s t n' fr' to' cap' x' val') (hc : ∀ T : Nat → Bool, cutF n fr to cap T = cutF n' fr' to' cap' T)
    (h1 : S s = true) (h2 : S t = false) (h1' : S' s = true) (h2' : S' t = false) (hS : Shut n fr to cap x S) (hS' : Shut n' fr' to' cap' x' S')
    (hL : Least N s n fr to cap x S) (hL' : Least N s n' fr' to' cap' x' S') : val = val' ∧ ∀ v, v < N → S v = S' v := by
  obtain ⟨a1, a2⟩ := flow_le h hs h1 h2
  obtain ⟨b1, b2⟩ := flow_le h' hs h1 h2
  obtain ⟨c1, c2⟩ := flow_le h hs h1' h2'
  obtain ⟨d1, d2⟩ := flow_le h' hs h1' h2'
  have e1 := a2.mpr hS
  have e2 := d2.mpr hS'
  have f1 := hc S
  have f2 := hc S'
  have hv : val = val' := by omega
  refine ⟨hv, fun v hv2 => ?_⟩
  have g1 : Shut n' fr' to' cap' x' S := b2.mp (by omega)
  have g2 : Shut n fr to cap x S' := c2.mp (by omega)
  have k1 := hL S' h1' g2 v hv2
  have k2 := hL' S h1 g1 v hv2
  cases q1 : S v <;> cases q2 : S' v
  · rfl
  · rw [k2 q2] at q1; cases q1
  · rw [k1 q1] at q2; cases q2
  · rfl
