/-! the class's search: works put and taken, plans -/
def plS (p : Nat) (s : zS4) (M : zM) : Prop := M p 1 = s.1 ∧ M p 2 = s.2.1 ∧ M p 3 = s.2.2.1 ∧ M p 4 = s.2.2.2
/-- cells that the search leaves as they are -/
def xK (p x : Nat) : Prop := ¬ (57 ≤ x ∧ x ≤ 65) ∧ ¬ (35 ≤ x ∧ x ≤ 43) ∧ x ≠ p
/-- the class amid its search: works as in V -/
def cI (M0 : zM) (p : Nat) (V : zM) (s : zS4) (M' : zM) : Prop := (∀ x, x < 102 → xK p x → M' x = V x) ∧ (∀ x, 102 ≤ x → M' x = M0 x) ∧ plS p s M'
theorem pid {p : Nat} (hp : zIs_4 (p : Int)) : p = 99 ∨ p = 100 ∨ p = 101 := by unfold zIs_4 at hp; omega
theorem wset_on {w t : Int} (hw : w = 0 ∨ w = 1) (ht : t = 0 ∨ t = 1) : (w = 0 → wset (w + 2 * t) 0 = w + 2 * t + 1) ∧ (t = 0 → wset (w + 2 * t) 1 = w + 2 * t + 2) ∧ (w = 0 → wset (w + 2 * t + 1) 0 = w + 2 * t) ∧ (t = 0 → wset (w + 2 * t + 2) 1 = w + 2 * t) ∧ (whas (w + 2 * t) 0 ↔ w ≠ 0) ∧ (whas (w + 2 * t) 1 ↔ t ≠ 0) := by
  rcases hw with rfl | rfl <;> rcases ht with rfl | rfl <;> refine ⟨fun q => ?_, fun q => ?_, fun q => ?_, fun q => ?_, ?_, ?_⟩ <;> first | decide | (unfold whas; simp) | (exfalso; omega)
theorem rel_pb {k : Nat} {V : zM} {a : Nat} (h : RelA k V) (hm : mayP V a) : RelA k (pb V a) := by
  obtain ⟨h0, h1, h2, h3, h4, h5, h6, h7, h8, h9, h10, h11, h12, h13⟩ := h
  obtain ⟨m1, m2, m3⟩ := hm
  refine ⟨zFix_c (pb_same (fun _ => rfl) (fun _ => rfl) (fun _ => rfl) rfl rfl) h0, rTape_c (pb_same (fun _ => rfl) (fun _ => rfl) (fun _ => rfl) rfl rfl) h1, rFlt_c (pb_same (fun _ => rfl) (fun _ => rfl) (fun _ => rfl) rfl rfl) h2, rNow_c (pb_same (fun _ => rfl) (fun _ => rfl) (fun _ => rfl) rfl rfl) h3, rPst_c (pb_same (fun _ => rfl) (fun _ => rfl) (fun _ => rfl) rfl rfl) h4, rRdg_c (pb_same (fun _ => rfl) (fun _ => rfl) (fun _ => rfl) rfl rfl) h5, ?_, ?_, rWld_c (pb_same (fun _ => rfl) (fun _ => rfl) (fun _ => rfl) rfl rfl) h8, rPlc_c (pb_same (fun _ => rfl) (fun _ => rfl) (fun _ => rfl) rfl rfl) h9, rRds_c (pb_same (fun _ => rfl) (fun _ => rfl) (fun _ => rfl) rfl rfl) h10, rWnd_c (pb_same (fun _ => rfl) (fun _ => rfl) (fun _ => rfl) rfl rfl) h11, rBks_c (pb_same (fun _ => rfl) (fun _ => rfl) (fun _ => rfl) rfl rfl) h12, ?_⟩
  · obtain ⟨l1, l2, l3, l4, l5, l6, l7, l8, l9, l10⟩ := h6
    have t : ∀ j, j ≠ 57 → pb V a 102 j = V 102 j := fun j hj => pb_n (by decide) (by decide) (by decide) (Or.inr hj) (Or.inl (by decide))
    have t2 : ∀ j, j ≠ 5 → pb V a 28 j = V 28 j := fun j hj => pb_n (by decide) (by decide) (by decide) (Or.inl (by decide)) (Or.inr hj)
    have g : ∀ y, y ≠ 130 → y ≠ 131 → y ≠ 31 → y ≠ 102 → y ≠ 28 → pb V a y = V y := fun y a1 a2 a3 a4 a5 => pb_a a1 a2 a3 a4 a5
    have key : ∀ i, (pb V a 31 i = pb V a 130 i + 2 * pb V a 131 i) ∧ (pb V a 130 i = 0 ∨ pb V a 130 i = 1) ∧ (pb V a 131 i = 0 ∨ pb V a 131 i = 1) := fun i => by
      have a7 := l7 i
      have a8 := l8 i
      rw [pb_q, pb_q, pb_q]
      rcases wtr_c a with ⟨q, e⟩ | ⟨q, e⟩
      · rw [e] at m1 ⊢
        by_cases qi : i = cwk V a
        · rw [← qi] at m1 ⊢
          simp [q]
          omega
        · simp [qi]
          omega
      · rw [e] at m1 ⊢
        by_cases qi : i = cwk V a
        · rw [← qi] at m1 ⊢
          simp [q]
          omega
        · simp [qi]
          omega
    unfold rLnd
    rw [t2 0 (by decide), t2 1 (by decide), t 51 (by decide), t 52 (by decide), g 29 (by decide) (by decide) (by decide) (by decide) (by decide), g 30 (by decide) (by decide) (by decide) (by decide) (by decide), g 128 (by decide) (by decide) (by decide) (by decide) (by decide), g 129 (by decide) (by decide) (by decide) (by decide) (by decide)]
    exact ⟨l1, l2, l3, l4, l5, l6, fun i => (key i).1, fun i => (key i).2, l9, l10⟩
  · obtain ⟨w1, w2, w3, w4, w5, w6⟩ := h7
    have e1 : pb V a 28 5 = V 28 5 + 1 := by rw [pb_q, if_pos ⟨rfl, rfl⟩]
    have e2 : pb V a 102 57 = V 102 57 + 1 := by rw [pb_q, if_neg (by omega), if_neg (by omega), if_pos ⟨rfl, rfl⟩]
    have e3 : pb V a 28 7 = V 28 7 := pb_n (by decide) (by decide) (by decide) (Or.inl (by decide)) (Or.inr (by decide))
    have e4 : pb V a 102 96 = V 102 96 := pb_n (by decide) (by decide) (by decide) (Or.inr (by decide)) (Or.inl (by decide))
    have e5 : pb V a 32 = V 32 := pb_a (by decide) (by decide) (by decide) (by decide) (by decide)
    have e6 : pb V a 162 = V 162 := pb_a (by decide) (by decide) (by decide) (by decide) (by decide)
    unfold rWks
    rw [e1, e2, e3, e4, e5, e6]
    exact ⟨by omega, by omega, w3, w4, w5, w6⟩
  · unfold rKpt
    rw [show pb V a 0 6 = V 0 6 from pb_n (by decide) (by decide) (by decide) (Or.inl (by decide)) (Or.inl (by decide)), show pb V a 0 7 = V 0 7 from pb_n (by decide) (by decide) (by decide) (Or.inl (by decide)) (Or.inl (by decide))]
    exact h13
def rCnd (M : zM) : Prop := ∀ i : Nat, (i : Int) < M 102 96 → 0 ≤ M 162 i ∧ M 162 i < M 102 51 * M 102 52
theorem cnd_pb {V : zM} {a : Nat} (h : rCnd V) : rCnd (pb V a) := by
  have t : ∀ j, j ≠ 57 → pb V a 102 j = V 102 j := fun j hj => pb_n (by decide) (by decide) (by decide) (Or.inr hj) (Or.inl (by decide))
  unfold rCnd
  rw [t 96 (by decide), t 51 (by decide), t 52 (by decide), show pb V a 162 = V 162 from pb_a (by decide) (by decide) (by decide) (by decide) (by decide)]
  exact h
/-- what the class's land looks like amid the search -/
theorem cI_land {M0 V M' : zM} {p : Nat} {s : zS4} (hp : zIs_4 (p : Int)) (hS : cI M0 p V s M') : M' 28 = V 28 ∧ M' 31 = V 31 ∧ M' 30 = V 30 ∧ M' 32 = V 32 ∧ M' 29 = V 29 := by
  have q := pid hp
  refine ⟨hS.1 _ (by decide) ?_, hS.1 _ (by decide) ?_, hS.1 _ (by decide) ?_, hS.1 _ (by decide) ?_, hS.1 _ (by decide) ?_⟩ <;> (unfold xK; omega)
theorem cI_up {M0 V V' M' : zM} {p c : Nat} {s : zS4} {v u : Int} (hp : zIs_4 (p : Int)) (hS : cI M0 p V s M') (e1 : V' 31 c = v) (e2 : V' 28 5 = u) (e3 : ∀ x j, x < 102 → ¬ (x = 28 ∧ j = 5) → ¬ (x = 31 ∧ j = c) → V' x j = V x j) : cI M0 p V' s (zup (zup M' 31 c v) 28 5 u) := by
  have q := pid hp
  obtain ⟨h1, h2, h3⟩ := hS
  refine ⟨fun x hx hk => funext fun j => ?_, fun x hx => ?_, ?_⟩
  · rw [zup_q, zup_q]
    by_cases q1 : x = 28 ∧ j = 5
    · rw [if_pos q1, q1.1, q1.2, e2]
    · rw [if_neg q1]
      by_cases q2 : x = 31 ∧ j = c
      · rw [if_pos q2, q2.1, q2.2, e1]
      · rw [if_neg q2, e3 x j hx q1 q2, h1 x hx hk]
  · rw [zup_ne _ _ _ (by omega), zup_ne _ _ _ (by omega)]
    exact h2 x hx
  · unfold plS
    rw [zup_ne _ _ _ (by omega), zup_ne _ _ _ (by omega)]
    exact h3
theorem c_put {E : zE} {M0 V M' : zM} {Q : Int → zM → Prop} {k p a : Nat} {s : zS4} (hV : RelA k V) (hk : k ≤ 600) (hcd : rCnd V) (ha : (a : Int) < 2 * V 102 96) (hp : zIs_4 (p : Int)) (hS : cI M0 p V s M')
    (h1 : mayP V a → ∀ M2 : zM, cI M0 p (pb V a) s M2 → Q 1 M2) (h0 : ¬ mayP V a → Q 0 M') : zP E mX1_putNumbered [.inr (.inr 28), .inl (a : Int)] M' Q := by
  obtain ⟨-, -, -, -, -, -, hl, ⟨k1, k2, k3, k4, k5, k6⟩, -⟩ := hV
  have wt := (wt_r hl).1
  obtain ⟨l1, l2, l3, l4, l5, l6, l7, l8, l9, l10⟩ := hl
  obtain ⟨i1, i2, i3, i4, i5⟩ := cI_land hp hS
  have ek : (V 162 (a / 2)).toNat = cwk V a := rfl
  have cr := hcd (a / 2) (by omega)
  have c64 : cwk V a < 64 := by omega
  have cw : V 162 (a / 2) = (cwk V a : Int) := by omega
  have lw : ∀ i, 0 ≤ M' 31 i ∧ M' 31 i ≤ 3 := fun i => by
    have := l7 i
    have := l8 i
    rw [i2]
    omega
  have l8c := l8 (cwk V a)
  have l7c := l7 (cwk V a)
  obtain ⟨u1, u2, u3, u4, u5, u6⟩ := wset_on l8c.1 l8c.2
  rw [← l7c] at u1 u2 u3 u4 u5 u6
  refine vcX1_putNumbered _ ?_
  rw [(num2 a).1, (num2 a).2, Int.toNat_natCast, i4, k5, cw]
  have main : ∀ t : Int, (t = 0 ∨ t = 1) → (whas (V 31 (cwk V a)) t ↔ V (wtr a) (cwk V a) ≠ 0) → (V (wtr a) (cwk V a) = 0 → wset (V 31 (cwk V a)) t = V 31 (cwk V a) + (if a % 2 = 1 then 2 else 1)) → zP E mX1_mayPut [.inr (.inr 28), .inl (cwk V a : Int), .inl t] M' (fun r1 M2 => ((zR r1) ∧ ((r1 = 0 → ((r1 = 0 ∨ r1 = 1) ∧ Q r1 M2)) ∧ (¬ r1 = 0 → (zP E mX1_setWork [.inr (.inr 28), .inl (cwk V a : Int), .inl t, .inl 1] M2 (fun _ M4 => ((r1 = 0 ∨ r1 = 1) ∧ Q r1 M4))))))) := by
    intro t ht hw hs
    refine c_mayPut (by unfold zR; omega) ht (by rw [i1, l2]; omega) lw (fun i => by rw [i3, l6]; have := l10 i; unfold zR; omega) (by rw [i1, k1]; unfold zR; omega) ?_
    rw [Int.toNat_natCast, i1, i2, i3, l2, l6, k1]
    refine ⟨fun q => ?_, fun q => ?_⟩
    · have hm : mayP V a := by
        refine ⟨?_, q.2.2.1, q.2.2.2⟩
        by_cases q0 : V (wtr a) (cwk V a) = 0
        · exact q0
        · exact absurd (hw.mpr q0) q.2.1
      refine ⟨zRd rfl, fun q => absurd q (by decide), fun _ => ?_⟩
      refine c_setWork (by omega) ht (Or.inr rfl) ?_
      rw [Int.toNat_natCast, if_neg (by decide), i2, i1, hs hm.1]
      refine ⟨Or.inr rfl, h1 hm _ (cI_up hp hS ?_ ?_ ?_)⟩
      · rw [pb_q, if_neg (by omega), if_pos ⟨rfl, rfl⟩]
      · rw [pb_q, if_pos ⟨rfl, rfl⟩]
      · intro x j hx q1 q2
        have w := wtr_hi a
        rw [pb_q, if_neg q1, if_neg q2, if_neg (by omega), if_neg (by omega)]
    · have hm : ¬ mayP V a := fun q0 => q ⟨by omega, fun q1 => (hw.mp q1) q0.1, q0.2.1, q0.2.2⟩
      exact ⟨zRd rfl, fun _ => ⟨Or.inl rfl, h0 hm⟩, fun q => absurd rfl q⟩
  refine ⟨by unfold zR; omega, by omega, by unfold zR; omega, by unfold zR; omega, fun q => ?_, fun q => ?_⟩
  · rcases wtr_c a with ⟨q2, e⟩ | ⟨q2, e⟩
    · omega
    · refine main 0 (Or.inl rfl) (by rw [e]; exact u5) (fun q0 => ?_)
      rw [e] at q0
      rw [u1 q0, if_neg (by omega)]
  · rcases wtr_c a with ⟨q2, e⟩ | ⟨q2, e⟩
    · refine main 1 (Or.inr rfl) (by rw [e]; exact u6) (fun q0 => ?_)
      rw [e] at q0
      rw [u2 q0, if_pos q2]
    · omega
theorem c_take {E : zE} {M0 V M' : zM} {Q : Int → zM → Prop} {k p a : Nat} {s : zS4} (hV : RelA k V) (hcd : rCnd V) (ha : (a : Int) < 2 * V 102 96) (hp : zIs_4 (p : Int)) (hm : mayP V a) (hS : cI M0 p (pb V a) s M')
    (h1 : ∀ M2 : zM, cI M0 p V s M2 → Q 0 M2) : zP E mX1_takeNumbered [.inr (.inr 28), .inl (a : Int)] M' Q := by
  obtain ⟨-, -, -, -, -, -, hl, ⟨k1, k2, k3, k4, k5, k6⟩, -⟩ := hV
  have wt := (wt_r hl).1
  obtain ⟨l1, l2, l3, l4, l5, l6, l7, l8, l9, l10⟩ := hl
  obtain ⟨i1, i2, i3, i4, i5⟩ := cI_land hp hS
  have cr := hcd (a / 2) (by omega)
  have ek : (V 162 (a / 2)).toNat = cwk V a := rfl
  have cw : V 162 (a / 2) = (cwk V a : Int) := by omega
  have l8c := l8 (cwk V a)
  have l7c := l7 (cwk V a)
  obtain ⟨u1, u2, u3, u4, u5, u6⟩ := wset_on l8c.1 l8c.2
  rw [← l7c] at u1 u2 u3 u4 u5 u6
  have e4 : pb V a 32 = V 32 := pb_a (by decide) (by decide) (by decide) (by decide) (by decide)
  have ew : pb V a 31 (cwk V a) = V 31 (cwk V a) + (if a % 2 = 1 then 2 else 1) := by rw [pb_q, if_neg (by omega), if_pos ⟨rfl, rfl⟩]
  have ec : pb V a 28 5 = V 28 5 + 1 := by rw [pb_q, if_pos ⟨rfl, rfl⟩]
  refine vcX1_takeNumbered _ ?_
  rw [(num2 a).1, (num2 a).2, Int.toNat_natCast, i4, e4, k5, cw]
  have main : ∀ t : Int, (t = 0 ∨ t = 1) → wset (V 31 (cwk V a) + (if a % 2 = 1 then 2 else 1)) t = V 31 (cwk V a) → zP E mX1_setWork [.inr (.inr 28), .inl (cwk V a : Int), .inl t, .inl 0] M' (fun _ M2 => Q 0 M2) := by
    intro t ht hs
    refine c_setWork (by omega) ht (Or.inl rfl) ?_
    rw [Int.toNat_natCast, if_pos rfl, i2, i1, ew, hs, ec]
    refine h1 _ (cI_up hp hS rfl (by omega) ?_)
    intro x j hx q1 q2
    have w := wtr_hi a
    rw [pb_q, if_neg q1, if_neg q2, if_neg (by omega), if_neg (by omega)]
  refine ⟨by unfold zR; omega, by omega, by unfold zR; omega, by unfold zR; omega, fun q => ?_, fun q => ?_⟩
  · rcases wtr_c a with ⟨q2, e⟩ | ⟨q2, e⟩
    · omega
    · refine main 0 (Or.inl rfl) ?_
      rw [if_neg (by omega)]
      exact u3 (by have := hm.1; rw [e] at this; exact this)
  · rcases wtr_c a with ⟨q2, e⟩ | ⟨q2, e⟩
    · refine main 1 (Or.inr rfl) ?_
      rw [if_pos q2]
      exact u4 (by have := hm.1; rw [e] at this; exact this)
    · omega
theorem c_offer {E : zE} {M : zM} {Q : Int → zM → Prop} {p : Nat} {s : zS4} {a b l u : Int} (hp : zIs_4 (p : Int)) (hs : sOk s) (pl : plS p s M) (hl : zR l) (hu : zR u) (h : ∀ M' : zM, (∀ x, x ≠ p → M' x = M x) → plS p (offS s a b l u) M' → Q 0 M') : zP E mX4_offer [.inr (.inr (p : Int)), .inl a, .inl b, .inl l, .inl u] M Q := by
  obtain ⟨p1, p2, p3, p4⟩ := pl
  obtain ⟨s1, s2, s3, s4⟩ := hs
  refine vcX4_offer _ _ _ _ _ hp ?_
  rw [Int.toNat_natCast, p3, p4]
  have set : ∀ M1 M2 M3 M4 : zM, M1 = zup M p 1 a → M2 = zup M1 p 2 b → M3 = zup M2 p 3 l → M4 = zup M3 p 4 u → offS s a b l u = (a, b, l, u) → Q 0 M4 := by
    intro M1 M2 M3 M4 h1 h2 h3 h4 ho
    refine h M4 (fun x hx => by rw [h4, zup_ne _ _ _ hx, h3, zup_ne _ _ _ hx, h2, zup_ne _ _ _ hx, h1, zup_ne _ _ _ hx]) ?_
    rw [ho]
    subst h1 h2 h3 h4
    simp [plS, zup_q]
  have keep : offS s a b l u = s → Q 0 M := fun ho => h M (fun _ _ => rfl) (by rw [ho]; exact ⟨p1, p2, p3, p4⟩)
  refine ⟨⟨hl, by unfold zR; omega⟩, fun q M1 h1 M2 h2 M3 h3 M4 h4 => set M1 M2 M3 M4 h1 h2 h3 h4 (by unfold offS; rw [if_pos (Or.inl q)]), fun q => ⟨⟨hl, by unfold zR; omega⟩, fun q2 => keep (by unfold offS; rw [if_neg (by omega)]), fun q2 => ⟨⟨hu, by unfold zR; omega⟩, fun q3 => keep (by unfold offS; rw [if_neg (by omega)]), fun q3 M1 h1 M2 h2 M3 h3 M4 h4 => set M1 M2 M3 M4 h1 h2 h3 h4 (by unfold offS; rw [if_pos (Or.inr ⟨q2, q3⟩)])⟩⟩⟩
theorem c_shutsLike {E : zE} {M : zM} {Q : Int → zM → Prop} {f g P R : Nat} (hf : zIs_0 (f : Int)) (hg : zIs_0 (g : Int)) (hP : M 44 6 = (P : Int)) (P8 : P ≤ 8) (hR : M 44 13 = (R : Int)) (R14 : R ≤ 14)
    (hc : ∀ p, p < P → M 45 p = -1 ∨ ((0 ≤ M 45 p ∧ M 45 p < 64) ∧ zR (M (f + 3) (M 45 p).toNat) ∧ zR (M (g + 3) (M 45 p).toNat)))
    (hr : ∀ r, r < R → M 56 r = -1 ∨ ((0 ≤ M 56 r ∧ M 56 r < 64) ∧ zR (M (f + 3) (M 56 r).toNat) ∧ zR (M (g + 3) (M 56 r).toNat)))
    (h1 : (∀ p, p < P → M 45 p ≠ -1 → M (f + 3) (M 45 p).toNat = M (g + 3) (M 45 p).toNat) → (∀ r, r < R → M 56 r ≠ -1 → M (f + 3) (M 56 r).toNat = M (g + 3) (M 56 r).toNat) → Q 1 M) (h0 : Q 0 M) : zP E mX0_shutsLike [.inr (.inr (f : Int)), .inr (.inr (g : Int)), .inr (.inr 44)] M Q := by
  have e3 : ((f : Int) + 3).toNat = f + 3 := by omega
  have e4 : ((g : Int) + 3).toNat = g + 3 := by omega
  refine vcX0_shutsLike _ _ hf hg (fun n l3 M' => M' = M ∧ ∃ i : Nat, l3 = (i : Int) ∧ i ≤ P ∧ n = 1000 - i ∧ (∀ p, p < i → M 45 p ≠ -1 → M (f + 3) (M 45 p).toNat = M (g + 3) (M 45 p).toNat))
    (fun n l3 M' => M' = M ∧ ∃ i : Nat, l3 = (i : Int) ∧ i ≤ R ∧ n = 500 - i ∧ (∀ p, p < P → M 45 p ≠ -1 → M (f + 3) (M 45 p).toNat = M (g + 3) (M 45 p).toNat) ∧ (∀ p, p < i → M 56 p ≠ -1 → M (f + 3) (M 56 p).toNat = M (g + 3) (M 56 p).toNat)) ?_ ?_ ?_
  · exact ⟨1000 - 0, rfl, 0, rfl, by omega, rfl, fun p hp => by omega⟩
  · rintro n l3 M' ⟨rfl, i, rfl, hi, rfl, hs⟩
    rw [hP, Int.toNat_natCast, e3, e4]
    refine ⟨⟨by unfold zR; omega, by unfold zR; omega⟩, fun q => ?_, fun q => ⟨by omega, ?_⟩⟩
    · have : i = P := by omega
      subst this
      exact ⟨500 - 0, by omega, rfl, 0, rfl, by omega, rfl, hs, fun p hp => by omega⟩
    · have hi2 := hc i (by omega)
      have nx : (M' 45 i ≠ -1 → M' (f + 3) (M' 45 i).toNat = M' (g + 3) (M' 45 i).toNat) → ∀ p, p < i + 1 → M' 45 p ≠ -1 → M' (f + 3) (M' 45 p).toNat = M' (g + 3) (M' 45 p).toNat := fun hx p hp2 hne => by
        by_cases q2 : p = i
        · rw [q2] at hne ⊢
          exact hx hne
        · exact hs p (by omega) hne
      refine ⟨by rcases hi2 with q2 | q2 <;> unfold zR <;> omega, fun q2 => ⟨1000 - (i + 1), by omega, rfl, i + 1, by omega, by omega, rfl, nx (fun q3 => absurd q2 q3)⟩, fun q2 => ?_⟩
      obtain ⟨c1, c2, c3⟩ := hi2.resolve_left q2
      exact ⟨c1, c1, ⟨c2, c3⟩, fun q3 => ⟨1000 - (i + 1), by omega, rfl, i + 1, by omega, by omega, rfl, nx (fun _ => q3)⟩, fun _ => h0⟩
  · rintro n l3 M' ⟨rfl, i, rfl, hi, rfl, hs, hs2⟩
    rw [hR, Int.toNat_natCast, e3, e4]
    refine ⟨⟨by unfold zR; omega, by unfold zR; omega⟩, fun q => ?_, fun q => ⟨by omega, ?_⟩⟩
    · have : i = R := by omega
      subst this
      exact h1 hs hs2
    · have hi2 := hr i (by omega)
      have nx : (M' 56 i ≠ -1 → M' (f + 3) (M' 56 i).toNat = M' (g + 3) (M' 56 i).toNat) → ∀ p, p < i + 1 → M' 56 p ≠ -1 → M' (f + 3) (M' 56 p).toNat = M' (g + 3) (M' 56 p).toNat := fun hx p hp2 hne => by
        by_cases q2 : p = i
        · rw [q2] at hne ⊢
          exact hx hne
        · exact hs2 p (by omega) hne
      refine ⟨by rcases hi2 with q2 | q2 <;> unfold zR <;> omega, fun q2 => ⟨500 - (i + 1), by omega, rfl, i + 1, by omega, by omega, rfl, hs, nx (fun q3 => absurd q2 q3)⟩, fun q2 => ?_⟩
      obtain ⟨c1, c2, c3⟩ := hi2.resolve_left q2
      exact ⟨c1, c1, ⟨c2, c3⟩, fun q3 => ⟨500 - (i + 1), by omega, rfl, i + 1, by omega, by omega, rfl, hs, nx (fun _ => q3)⟩, fun _ => h0⟩
