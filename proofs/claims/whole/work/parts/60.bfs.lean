/-! marking what can be reached, one by one; pushing along arcs and back -/
def up1 {α : Type} (f : Nat → α) (i : Nat) (v : α) : Nat → α := fun j => if j = i then v else f j
theorem up1_s {α : Type} (f : Nat → α) (i : Nat) (v : α) : up1 f i v i = v := if_pos rfl
theorem up1_n {α : Type} (f : Nat → α) {i j : Nat} (v : α) (h : j ≠ i) : up1 f i v j = f j := if_neg h
def cnt (N : Nat) (C : Nat → Int) : Int := sm N (fun v => if C v = -1 then 0 else 1)
theorem cnt_le (N : Nat) (C : Nat → Int) : 0 ≤ cnt N C ∧ cnt N C ≤ N := by
  induction N with
  | zero => exact ⟨Int.le_refl _, Int.le_refl _⟩
  | succ N ih =>
    have e : cnt (N + 1) C = cnt N C + (if C N = -1 then 0 else 1) := rfl
    rw [e]
    split <;> omega
theorem cnt_lt {N : Nat} {C : Nat → Int} {u : Nat} (hu : u < N) (h : C u = -1) : cnt N C + 1 ≤ N := by
  induction N with
  | zero => omega
  | succ N ih =>
    have e : cnt (N + 1) C = cnt N C + (if C N = -1 then 0 else 1) := rfl
    rw [e]
    by_cases hN : u = N
    · subst hN
      rw [if_pos h]
      have := cnt_le u C
      omega
    · have := ih (by omega)
      split <;> omega
theorem cnt_n {N : Nat} {C : Nat → Int} {u : Nat} {c : Int} (hu : N ≤ u) : cnt N (up1 C u c) = cnt N C := by
  unfold cnt
  refine sm_congr (fun i hi => ?_)
  rw [up1_n _ _ (by omega)]
theorem cnt_up {N : Nat} {C : Nat → Int} {u : Nat} {c : Int} (hu : u < N) (h : C u = -1) (hc : c ≠ -1) : cnt N (up1 C u c) = cnt N C + 1 := by
  induction N with
  | zero => omega
  | succ N ih =>
    have e : ∀ D : Nat → Int, cnt (N + 1) D = cnt N D + (if D N = -1 then 0 else 1) := fun _ => rfl
    rw [e, e]
    by_cases hN : u = N
    · subst hN
      rw [cnt_n (Nat.le_refl _), up1_s, if_neg hc, if_pos h]
      omega
    · rw [ih (by omega), up1_n _ _ (fun q => hN q.symm)]
      omega
/-- N places, the source s, m ways on from tl to hd with space sp; C marks, q is the row, ρ the place in it -/
def SPg (N s m : Nat) (tl hd : Nat → Nat) (sp : Nat → Int) (R : (Nat → Int) → Nat → Nat → Prop) (C q : Nat → Int) (ρ : Nat → Nat) (k : Nat) : Prop :=
  (1 ≤ k ∧ k ≤ N) ∧ C s ≠ -1 ∧ (∀ i, i < k → ∃ v : Nat, q i = (v : Int) ∧ v < N ∧ C v ≠ -1 ∧ ρ v = i) ∧ (∀ v, v < N → C v ≠ -1 → ρ v < k ∧ q (ρ v) = (v : Int)) ∧ (k : Int) = cnt N C ∧
  (∀ v, v < N → v ≠ s → C v ≠ -1 → ∃ e, e < m ∧ hd e = v ∧ 0 < sp e ∧ C (tl e) ≠ -1 ∧ tl e < N ∧ ρ (tl e) < ρ v ∧ R C v e)
theorem SPg_0 {N s m : Nat} {tl hd : Nat → Nat} {sp : Nat → Int} {R : (Nat → Int) → Nat → Nat → Prop} {C q : Nat → Int} {c : Int} (hs : s < N) (hC : ∀ v, v < N → C v = -1) (hc : c ≠ -1) : SPg N s m tl hd sp R (up1 C s c) (up1 q 0 (s : Int)) (fun _ => 0) 1 := by
  have one : ∀ v, v < N → up1 C s c v ≠ -1 → v = s := fun v hv h => by
    by_cases q : v = s
    · exact q
    · rw [up1_n _ _ q] at h
      exact absurd (hC v hv) h
  refine ⟨by omega, by rw [up1_s]; exact hc, fun i hi => ⟨s, ?_, hs, by rw [up1_s]; exact hc, by show 0 = i; omega⟩, fun v hv h => ⟨by show 0 < 1; omega, ?_⟩, ?_, fun v hv h1 h2 => absurd (one v hv h2) h1⟩
  · rw [show i = 0 by omega, up1_s]
  · rw [up1_s, one v hv h]
  · rw [cnt_up hs (hC s hs) hc]
    have : cnt N C = 0 := by
      unfold cnt
      refine Eq.trans (sm_congr (g := fun _ => 0) (fun i hi => ?_)) (sm_zero N)
      rw [if_pos (hC i hi)]
    rw [this]
    rfl
theorem SPg_add {N s m : Nat} {tl hd : Nat → Nat} {sp : Nat → Int} {R : (Nat → Int) → Nat → Nat → Prop} {C q : Nat → Int} {ρ : Nat → Nat} {k u e : Nat} {c : Int} (h : SPg N s m tl hd sp R C q ρ k) (hu : u < N) (h0 : C u = -1) (hc : c ≠ -1) (he : e < m) (h1 : hd e = u) (h2 : 0 < sp e) (h3 : C (tl e) ≠ -1) (h4 : tl e < N) (h5 : R (up1 C u c) u e) (hR : ∀ v e, v ≠ u → tl e ≠ u → R C v e → R (up1 C u c) v e) : k < N ∧ SPg N s m tl hd sp R (up1 C u c) (up1 q k (u : Int)) (up1 ρ u k) (k + 1) := by
  obtain ⟨a1, a2, a3, a4, a5, a6⟩ := h
  have ck := cnt_lt hu h0
  have kN : k < N := by omega
  have nu : ∀ v, C v ≠ -1 → v ≠ u := fun v hv e => hv (by rw [e]; exact h0)
  have mk : ∀ v, C v ≠ -1 → up1 C u c v ≠ -1 := fun v hv => by rw [up1_n _ _ (nu v hv)]; exact hv
  refine ⟨kN, by omega, mk s a2, fun i hi => ?_, fun v hv hm => ?_, ?_, fun v hv hvs hm => ?_⟩
  · by_cases hik : i = k
    · exact ⟨u, by rw [hik, up1_s], hu, by rw [up1_s]; exact hc, by rw [up1_s]; exact hik.symm⟩
    · obtain ⟨v, v1, v2, v3, v4⟩ := a3 i (by omega)
      exact ⟨v, by rw [up1_n _ _ hik]; exact v1, v2, mk v v3, by rw [up1_n _ _ (nu v v3)]; exact v4⟩
  · by_cases hvu : v = u
    · rw [hvu, up1_s, up1_s]
      exact ⟨by omega, rfl⟩
    · rw [up1_n _ _ hvu] at hm
      obtain ⟨b1, b2⟩ := a4 v hv hm
      rw [up1_n _ _ hvu, up1_n _ _ (by omega)]
      exact ⟨by omega, b2⟩
  · rw [cnt_up hu h0 hc]
    omega
  · by_cases hvu : v = u
    · subst hvu
      refine ⟨e, he, h1, h2, mk _ h3, h4, ?_, h5⟩
      rw [up1_s, up1_n _ _ (nu _ h3)]
      exact (a4 _ h4 h3).1
    · rw [up1_n _ _ hvu] at hm
      obtain ⟨e', b1, b2, b3, b4, b5, b6, b7⟩ := a6 v hv hvs hm
      refine ⟨e', b1, b2, b3, mk _ b4, b5, ?_, hR v e' hvu (nu _ b4) b7⟩
      rw [up1_n _ _ hvu, up1_n _ _ (nu _ b4)]
      exact b6
/-- all that is marked lies in every shut set with the source -/
theorem SPg_least {N s m : Nat} {tl hd : Nat → Nat} {sp : Nat → Int} {R : (Nat → Int) → Nat → Nat → Prop} {C q : Nat → Int} {ρ : Nat → Nat} {k : Nat} (h : SPg N s m tl hd sp R C q ρ k) (T : Nat → Bool) (hs : T s = true) (hT : ∀ e, e < m → T (tl e) = true → 0 < sp e → T (hd e) = true) (v : Nat) (hv : v < N) (hC : C v ≠ -1) : T v = true := by
  obtain ⟨a1, a2, a3, a4, a5, a6⟩ := h
  have key : ∀ n v, ρ v < n → v < N → C v ≠ -1 → T v = true := by
    intro n
    induction n with
    | zero => intro v h; omega
    | succ n ih =>
      intro v h1 h2 h3
      by_cases hvs : v = s
      · rw [hvs]; exact hs
      · obtain ⟨e, b1, b2, b3, b4, b5, b6, b7⟩ := a6 v h2 hvs h3
        rw [← b2]
        exact hT e b1 (ih (tl e) (by omega) b5 b4) b3
  exact key (ρ v + 1) v (by omega) hv hC
/-! arcs and their ways back -/
def rtl (fr to : Nat → Nat) (e : Nat) : Nat := if e % 2 = 0 then fr (e / 2) else to (e / 2)
def rhd (fr to : Nat → Nat) (e : Nat) : Nat := if e % 2 = 0 then to (e / 2) else fr (e / 2)
def rsp (cap x : Nat → Int) (e : Nat) : Int := if e % 2 = 0 then cap (e / 2) - x (e / 2) else x (e / 2)
theorem rtl_0 (fr to : Nat → Nat) (a : Nat) : rtl fr to (2 * a) = fr a := by
  unfold rtl
  rw [if_pos (by omega), show 2 * a / 2 = a by omega]
theorem rtl_1 (fr to : Nat → Nat) (a : Nat) : rtl fr to (2 * a + 1) = to a := by
  unfold rtl
  rw [if_neg (by omega), show (2 * a + 1) / 2 = a by omega]
theorem rhd_0 (fr to : Nat → Nat) (a : Nat) : rhd fr to (2 * a) = to a := by
  unfold rhd
  rw [if_pos (by omega), show 2 * a / 2 = a by omega]
theorem rhd_1 (fr to : Nat → Nat) (a : Nat) : rhd fr to (2 * a + 1) = fr a := by
  unfold rhd
  rw [if_neg (by omega), show (2 * a + 1) / 2 = a by omega]
theorem rsp_0 (cap x : Nat → Int) (a : Nat) : rsp cap x (2 * a) = cap a - x a := by
  unfold rsp
  rw [if_pos (by omega), show 2 * a / 2 = a by omega]
theorem rsp_1 (cap x : Nat → Int) (a : Nat) : rsp cap x (2 * a + 1) = x a := by
  unfold rsp
  rw [if_neg (by omega), show (2 * a + 1) / 2 = a by omega]
theorem par (e : Nat) : ∃ a, e = 2 * a ∨ e = 2 * a + 1 := ⟨e / 2, by omega⟩
def clsd (m : Nat) (tl hd : Nat → Nat) (sp : Nat → Int) (T : Nat → Bool) : Prop := ∀ e, e < m → T (tl e) = true → 0 < sp e → T (hd e) = true
theorem shut_clsd {n : Nat} {fr to : Nat → Nat} {cap x : Nat → Int} {T : Nat → Bool} (hb : ∀ a, a < n → 0 ≤ x a ∧ x a ≤ cap a) : Shut n fr to cap x T ↔ clsd (2 * n) (rtl fr to) (rhd fr to) (rsp cap x) T := by
  refine ⟨fun h e he h1 h2 => ?_, fun h a ha => ⟨fun h1 h2 => ?_, fun h1 h2 => ?_⟩⟩
  · obtain ⟨a, ea | ea⟩ := par e
    · subst ea
      rw [rtl_0] at h1
      rw [rsp_0] at h2
      rw [rhd_0]
      have := (h a (by omega)).1 h1
      cases q : T (to a)
      · have := this q; omega
      · rfl
    · subst ea
      rw [rtl_1] at h1
      rw [rsp_1] at h2
      rw [rhd_1]
      have := (h a (by omega)).2
      cases q : T (fr a)
      · have := this q h1; omega
      · rfl
  · have := h (2 * a) (by omega)
    rw [rtl_0, rsp_0, rhd_0, h2] at this
    have b := hb a ha
    have : ¬ 0 < cap a - x a := fun q => by cases this h1 q
    omega
  · have := h (2 * a + 1) (by omega)
    rw [rtl_1, rsp_1, rhd_1, h1] at this
    have b := hb a ha
    have : ¬ 0 < x a := fun q => by cases this h2 q
    omega
def dv (n : Nat) (fr to : Nat → Nat) (x : Nat → Int) (v : Nat) : Int := fOut n fr x v - fOut n to x v
theorem fOut_up {n : Nat} {fr : Nat → Nat} {x : Nat → Int} {a : Nat} {d : Int} (ha : a < n) (v : Nat) : fOut n fr (up1 x a (x a + d)) v = fOut n fr x v + (if fr a = v then d else 0) := by
  have e : fOut n fr (up1 x a (x a + d)) v = sm n (fun i => (if fr i = v then x i else 0) + (if a = i then (if fr a = v then d else 0) else 0)) := by
    unfold fOut
    refine sm_congr (fun i hi => ?_)
    by_cases q : i = a
    · subst q
      rw [up1_s, if_pos rfl]
      split <;> omega
    · rw [up1_n _ _ q, if_neg (show ¬ a = i from fun r => q r.symm)]
      omega
  rw [e, sm_add, sm_pick, if_pos ha]
  rfl
/-- what goes over an arc, or back over it, once d more is pushed over e -/
def psh (x : Nat → Int) (e : Nat) (d : Int) : Nat → Int := if e % 2 = 0 then up1 x (e / 2) (x (e / 2) + d) else up1 x (e / 2) (x (e / 2) + -d)
theorem psh_0 (x : Nat → Int) (a : Nat) (d : Int) : psh x (2 * a) d = up1 x a (x a + d) := by
  unfold psh
  rw [if_pos (by omega), show 2 * a / 2 = a by omega]
theorem psh_1 (x : Nat → Int) (a : Nat) (d : Int) : psh x (2 * a + 1) d = up1 x a (x a + -d) := by
  unfold psh
  rw [if_neg (by omega), show (2 * a + 1) / 2 = a by omega]
theorem dv_psh {n : Nat} {fr to : Nat → Nat} {x : Nat → Int} {e : Nat} {d : Int} (he : e < 2 * n) (v : Nat) : dv n fr to (psh x e d) v = dv n fr to x v + (if rtl fr to e = v then d else 0) - (if rhd fr to e = v then d else 0) := by
  unfold dv
  obtain ⟨a, ea | ea⟩ := par e
  · subst ea
    rw [psh_0, rtl_0, rhd_0, fOut_up (by omega), fOut_up (by omega)]
    omega
  · subst ea
    rw [psh_1, rtl_1, rhd_1, fOut_up (by omega), fOut_up (by omega)]
    split <;> split <;> omega
theorem psh_n {x : Nat → Int} {e : Nat} {d : Int} {a : Nat} (h : a ≠ e / 2) : psh x e d a = x a := by
  unfold psh
  split <;> exact up1_n _ _ h
/-- the space of an arc and of its way back, once d more is pushed over e -/
theorem rsp_psh {cap x : Nat → Int} {e : Nat} {d : Int} (e' : Nat) : rsp cap (psh x e d) e' = if e' = e then rsp cap x e - d else if e' / 2 = e / 2 then rsp cap x e' + d else rsp cap x e' := by
  by_cases h : e' / 2 = e / 2
  · by_cases h2 : e' = e
    · subst h2
      rw [if_pos rfl]
      obtain ⟨a, ea | ea⟩ := par e'
      · subst ea
        rw [psh_0, rsp_0, rsp_0, up1_s]
        omega
      · subst ea
        rw [psh_1, rsp_1, rsp_1, up1_s]
        omega
    · rw [if_neg h2, if_pos h]
      obtain ⟨a, ea | ea⟩ := par e
      · subst ea
        have : e' = 2 * a + 1 := by omega
        subst this
        rw [psh_0, rsp_1, rsp_1, up1_s]
      · subst ea
        have : e' = 2 * a := by omega
        subst this
        rw [psh_1, rsp_0, rsp_0, up1_s]
        omega
  · rw [if_neg (fun q => h (by rw [q])), if_neg h]
    obtain ⟨a, ea | ea⟩ := par e'
    · subst ea
      rw [rsp_0, rsp_0, psh_n (by omega)]
    · subst ea
      rw [rsp_1, rsp_1, psh_n (by omega)]
theorem flow_dv {N s t n : Nat} {fr to : Nat → Nat} {cap x : Nat → Int} {val : Int} : Flow N s t n fr to cap x val ↔ ((∀ a, a < n → (0 ≤ x a ∧ x a ≤ cap a) ∧ fr a < N ∧ to a < N) ∧ (∀ v, v < N → v ≠ s → v ≠ t → dv n fr to x v = 0) ∧ dv n fr to x s = val) := by
  unfold Flow dv
  refine ⟨fun h => ⟨h.1, fun v h1 h2 h3 => ?_, h.2.2⟩, fun h => ⟨h.1, fun v h1 h2 h3 => ?_, h.2.2⟩⟩
  · have := h.2.1 v h1 h2 h3; omega
  · have := h.2.1 v h1 h2 h3; omega
/-- d more goes from s to t -/
theorem flow_more {N s t n : Nat} {fr to : Nat → Nat} {cap x x' : Nat → Int} {val d : Int} (h : Flow N s t n fr to cap x val) (hst : s ≠ t) (hb : ∀ a, a < n → 0 ≤ x' a ∧ x' a ≤ cap a) (hd : ∀ v, dv n fr to x' v = dv n fr to x v + (if v = s then d else 0) - (if v = t then d else 0)) : Flow N s t n fr to cap x' (val + d) := by
  rw [flow_dv] at h ⊢
  obtain ⟨h1, h2, h3⟩ := h
  refine ⟨fun a ha => ⟨hb a ha, (h1 a ha).2⟩, fun v v1 v2 v3 => ?_, ?_⟩
  · rw [hd, h2 v v1 v2 v3, if_neg v2, if_neg v3]
    omega
  · rw [hd, h3, if_pos rfl, if_neg hst]
    omega
theorem flow_0 {N s t n : Nat} {fr to : Nat → Nat} {cap : Nat → Int} (h : ∀ a, a < n → 0 ≤ cap a ∧ fr a < N ∧ to a < N) : Flow N s t n fr to cap (fun _ => 0) 0 := by
  have z : ∀ f : Nat → Nat, ∀ v, fOut n f (fun _ => 0) v = 0 := fun f v => by
    unfold fOut
    refine Eq.trans (sm_congr (g := fun _ => 0) (fun i hi => ?_)) (sm_zero n)
    split <;> rfl
  refine ⟨fun a ha => ⟨⟨Int.le_refl _, (h a ha).1⟩, (h a ha).2⟩, fun v _ _ _ => by rw [z, z], ?_⟩
  rw [z, z]
  rfl
theorem ite_sym (a b : Nat) (d : Int) : (if a = b then d else 0) = (if b = a then d else 0) := by
  by_cases h : a = b
  · rw [if_pos h, if_pos h.symm]
  · rw [if_neg h, if_neg (fun q => h q.symm)]
