/-! the reader of rules: binding, in the reference and in the class -/
theorem e_b1 {f : Nat} {V M : zM} {o0 c w kn : Nat} {s : List Nat} (hf : f = 6 ∨ f = 13) (h : eInv f V M o0 c (w + 1) kn 1 s) (hk : M 123 w = 11 ∨ M 123 w = 12) :
    ∃ (a : Nat) (r : List Nat), M 124 w = 64 + (a : Int) ∧ a < 64 ∧ M 102 44 = (r.length : Int) + 1 ∧ r.length < 64 ∧ o0 + c < 64 ∧ M 102 39 = ((o0 + c : Nat) : Int) ∧ eInv f (ppV f V w (V 4 w)) (b1M M (o0 + c) r.length w a) o0 (c + 1) w kn 1 (a :: r) ∧ agr (shM V M) (shM (ppV f V w (V 4 w)) (b1M M (o0 + c) r.length w a)) f (o0 + c) := by
  obtain ⟨⟨i1, i2⟩, i3, i4, i5, ⟨i6, i7, i8⟩, ⟨i9, i10⟩, i11, i12, i13⟩ := id h
  have k100 : M 123 w ≠ 100 := by omega
  obtain ⟨a, a1, a2, a3, a4, a5⟩ := i12 w (by omega) k100
  have nw : nwc (M 123) (w + 1) = nwc (M 123) w + 1 := by
    show nwc (M 123) w + (if M 123 w = 100 then 0 else 1) = _
    rw [if_neg k100]
  have bn : bnc (M 123) (w + 1) = bnc (M 123) w := by
    show bnc (M 123) w + (if M 123 w = 100 ∨ M 123 w = 11 ∨ M 123 w = 12 then 0 else 1) = _
    rw [if_pos (by omega)]
    rfl
  obtain ⟨l1, l2⟩ := chn_l c s i5
  have g1 : ∀ j, shM V M 119 j = M 119 (64 + j) - 64 := fun j => sh_3 (Or.inr (Or.inr rfl)) j
  cases s with
  | nil => exact absurd i8 (by show ¬ (0 = _); omega)
  | cons b r =>
    have hl : (b :: r).length = r.length + 1 := rfl
    obtain ⟨q1, q2, q3, q4, q5, q6, q7⟩ := b1_q M (o0 + c) r.length w a
    have fr := b1_fr M (o0 + c) r.length w a
    obtain ⟨p1, p2, p3, p4, p5, p6⟩ := ppV_q (w := w) (t := V 4 w) hf i2 (by omega)
    have hb : b < 64 := by
      obtain ⟨j, j1, j2⟩ := l2 b (List.mem_cons_self ..)
      rw [g1] at j2
      obtain ⟨x, x1, x2⟩ := i4 (o0 + j) (by omega)
      omega
    have har : a ∉ r := fun q => by
      obtain ⟨j, j1, j2⟩ := l2 a (List.mem_cons_of_mem _ q)
      rw [g1] at j2
      exact a4 (o0 + j) (by omega) (by omega)
    have kw : shM (ppV f V w (V 4 w)) (b1M M (o0 + c) r.length w a) 113 a = M 123 w := by
      rw [sh_k (Or.inl rfl), fr 113 _ rfl]
      exact a3
    have ow : shM (ppV f V w (V 4 w)) (b1M M (o0 + c) r.length w a) (f + 1) (o0 + c) = V 4 w := by
      rw [sh_c (by omega), p1, if_pos rfl]
    have X := e_pop (M' := b1M M (o0 + c) r.length w a) (r := r) hf h k100 a1 fr q1 q2 q3 q4 (fun j hj => by rw [q5, if_neg hj]) (fun j hj => q6 j) q7 i7.2 (by omega)
      (Or.inr (Or.inr (Or.inl ⟨by rw [kw]; exact hk, b, r, by rw [sh_3 (Or.inl rfl), q5, if_pos rfl, i7.1]; omega, hb, rfl, har, rfl⟩)))
      (by
        unfold opRel
        rw [kw, ow]
        rcases i11 w (by omega) with q | q | q | q
        · omega
        · exact Or.inr (Or.inr (Or.inl q))
        · exact Or.inr (Or.inr (Or.inr (Or.inl q)))
        · exact Or.inr (Or.inr (Or.inr (Or.inr q))))
    exact ⟨a, r, a1, by omega, by rw [i6, hl]; omega, by omega, by omega, i1, X.1, X.2⟩
theorem e_b2 {f : Nat} {V M : zM} {o0 c w kn : Nat} {s : List Nat} (hf : f = 6 ∨ f = 13) (h : eInv f V M o0 c (w + 1) kn 1 s) (hk : M 123 w ≠ 100 ∧ M 123 w ≠ 11 ∧ M 123 w ≠ 12) :
    ∃ (a : Nat) (r : List Nat), M 124 w = 64 + (a : Int) ∧ a < 64 ∧ M 102 44 = (r.length : Int) + 2 ∧ r.length < 64 ∧ o0 + c < 64 ∧ M 102 39 = ((o0 + c : Nat) : Int) ∧ eInv f (ppV f V w (V 4 w)) (b2M M (o0 + c) r.length w a) o0 (c + 1) w kn 1 (a :: r) ∧ agr (shM V M) (shM (ppV f V w (V 4 w)) (b2M M (o0 + c) r.length w a)) f (o0 + c) := by
  obtain ⟨⟨i1, i2⟩, i3, i4, i5, ⟨i6, i7, i8⟩, ⟨i9, i10⟩, i11, i12, i13⟩ := id h
  have k100 : M 123 w ≠ 100 := hk.1
  obtain ⟨a, a1, a2, a3, a4, a5⟩ := i12 w (by omega) k100
  have nw : nwc (M 123) (w + 1) = nwc (M 123) w + 1 := by
    show nwc (M 123) w + (if M 123 w = 100 then 0 else 1) = _
    rw [if_neg k100]
  have bn : bnc (M 123) (w + 1) = bnc (M 123) w + 1 := by
    show bnc (M 123) w + (if M 123 w = 100 ∨ M 123 w = 11 ∨ M 123 w = 12 then 0 else 1) = _
    rw [if_neg (by omega)]
  obtain ⟨l1, l2⟩ := chn_l c s i5
  have g1 : ∀ j, shM V M 119 j = M 119 (64 + j) - 64 := fun j => sh_3 (Or.inr (Or.inr rfl)) j
  cases s with
  | nil => exact absurd i8 (by show ¬ (0 = _); omega)
  | cons d s2 => cases s2 with
  | nil => exact absurd i8 (by show ¬ (1 = _); omega)
  | cons b r =>
    have hl : (d :: b :: r).length = r.length + 2 := rfl
    have hl2 : (b :: r).length = r.length + 1 := rfl
    obtain ⟨q1, q2, q3, q4, q5, q6, q7⟩ := b2_q M (o0 + c) r.length w a
    have fr := b2_fr M (o0 + c) r.length w a
    obtain ⟨p1, p2, p3, p4, p5, p6⟩ := ppV_q (w := w) (t := V 4 w) hf i2 (by omega)
    have lt : ∀ x, x ∈ d :: b :: r → x < 64 := fun x hx => by
      obtain ⟨j, j1, j2⟩ := l2 x hx
      rw [g1] at j2
      obtain ⟨y, y1, y2⟩ := i4 (o0 + j) (by omega)
      omega
    have hb : b < 64 := lt b (List.mem_cons_of_mem _ (List.mem_cons_self ..))
    have hd : d < 64 := lt d (List.mem_cons_self ..)
    have har : a ∉ r := fun q => by
      obtain ⟨j, j1, j2⟩ := l2 a (List.mem_cons_of_mem _ (List.mem_cons_of_mem _ q))
      rw [g1] at j2
      exact a4 (o0 + j) (by omega) (by omega)
    have h7 : M 125 (r.length + 1) = 64 + (d : Int) := i7.1
    have h8 : M 125 r.length = 64 + (b : Int) := i7.2.1
    have kw : shM (ppV f V w (V 4 w)) (b2M M (o0 + c) r.length w a) 113 a = M 123 w := by
      rw [sh_k (Or.inl rfl), fr 113 _ rfl]
      exact a3
    have ow : shM (ppV f V w (V 4 w)) (b2M M (o0 + c) r.length w a) (f + 1) (o0 + c) = V 4 w := by
      rw [sh_c (by omega), p1, if_pos rfl]
    have two : opTwo (V 4 w) ∧ M 123 w = opk (V 4 w) := by
      rcases i11 w (by omega) with q | q | q | q
      · omega
      · omega
      · omega
      · exact q
    have X := e_pop (M' := b2M M (o0 + c) r.length w a) (r := r) hf h k100 a1 fr q1 q2 q3 q4 (fun j hj => by rw [q5, if_neg hj]) (fun j hj => by rw [q6, if_neg hj]) q7 i7.2.2 (by omega)
      (Or.inr (Or.inr (Or.inr ⟨by rw [kw, two.2]; exact opk_r two.1, b, d, r, by rw [sh_3 (Or.inl rfl), q5, if_pos rfl, h8]; omega, hb, by rw [sh_3 (Or.inr (Or.inl rfl)), q6, if_pos rfl, h7]; omega, hd, rfl, har, rfl⟩)))
      (by
        unfold opRel
        rw [kw, ow]
        exact Or.inr (Or.inr (Or.inr (Or.inr two))))
    exact ⟨a, r, a1, by omega, by rw [i6, hl]; omega, by omega, by omega, i1, X.1, X.2⟩
theorem agr_t {W W1 W2 : zM} {f o o1 : Nat} (h : agr W W1 f o) (h2 : agr W1 W2 f o1) (ho : o ≤ o1) : agr W W2 f o := fun j hj => by
  obtain ⟨⟨a1, r1, r2, r3⟩, a2⟩ := h j hj
  obtain ⟨⟨b1, s1, s2, s3⟩, b2⟩ := h2 j (by omega)
  refine ⟨⟨b1.trans a1, s1.trans r1, s2.trans r2, s3.trans r3⟩, fun a ha => ?_⟩
  obtain ⟨k1, k2, k3, k4, k5, k6⟩ := a2 a ha
  obtain ⟨m1, m2, m3, m4, m5, m6⟩ := b2 a (by rw [a1]; exact ha)
  exact ⟨m1.trans k1, m2.trans k2, m3.trans k3, m4.trans k4, m5.trans k5, m6.trans k6⟩
theorem agr_r (W : zM) (f o : Nat) : agr W W f o := fun j hj => ⟨⟨rfl, rfl, rfl, rfl⟩, fun a ha => ⟨rfl, rfl, rfl, rfl, rfl, rfl⟩⟩
def bdF (E : zE) (Q : Int → zM → Prop) (l1 : Int) (X : zM → Prop) (M : zM) : Prop := ((zR (M 102 42)) ∧ (((M 102 42) ≤ 0 → Q 0 M) ∧ (0 < (M 102 42) → (0 ≤ (M 102 42) - 1 ∧ (M 102 42) - 1 < 100) ∧ (zP E mX12_weight [.inl (M 123 (((M 102 42) - 1).toNat))] M (fun r1 M2 => ((zR r1 ∧ zR l1) ∧ ((r1 < l1 → Q 0 M2) ∧ (l1 ≤ r1 → (∀ M3, M3 = zup M2 102 42 ((M2 102 42) - 1) → (0 ≤ M3 102 42 ∧ M3 102 42 < 100) ∧ (0 ≤ M3 102 42 ∧ M3 102 42 < 100) ∧ ((zR (M3 123 ((M3 102 42).toNat))) ∧ (((M3 123 ((M3 102 42).toNat)) = 11 → (zP E mX12_drop [.inr (.inr 102)] M3 (fun r4 M5 => (0 ≤ M3 124 ((M3 102 42).toNat) ∧ M3 124 ((M3 102 42).toNat) < 128) ∧ (∀ M6, M6 = zup M5 114 ((M3 124 ((M3 102 42).toNat)).toNat) r4 → (zP E mX12_done [.inr (.inr 102), .inl (M3 124 ((M3 102 42).toNat))] M6 (fun r7 M8 => X M8)))))) ∧ (¬ (M3 123 ((M3 102 42).toNat)) = 11 → (0 ≤ M3 102 42 ∧ M3 102 42 < 100) ∧ ((zR (M3 123 ((M3 102 42).toNat))) ∧ (((M3 123 ((M3 102 42).toNat)) = 12 → (zP E mX12_drop [.inr (.inr 102)] M3 (fun r9 M10 => (0 ≤ M3 124 ((M3 102 42).toNat) ∧ M3 124 ((M3 102 42).toNat) < 128) ∧ (∀ M11, M11 = zup M10 114 ((M3 124 ((M3 102 42).toNat)).toNat) r9 → (zP E mX12_done [.inr (.inr 102), .inl (M3 124 ((M3 102 42).toNat))] M11 (fun r12 M13 => X M13)))))) ∧ (¬ (M3 123 ((M3 102 42).toNat)) = 12 → (zP E mX12_drop [.inr (.inr 102)] M3 (fun r14 M15 => (0 ≤ M3 124 ((M3 102 42).toNat) ∧ M3 124 ((M3 102 42).toNat) < 128) ∧ (∀ M16, M16 = zup M15 115 ((M3 124 ((M3 102 42).toNat)).toNat) r14 → (zP E mX12_drop [.inr (.inr 102)] M16 (fun r17 M18 => (0 ≤ M3 124 ((M3 102 42).toNat) ∧ M3 124 ((M3 102 42).toNat) < 128) ∧ (∀ M19, M19 = zup M18 114 ((M3 124 ((M3 102 42).toNat)).toNat) r17 → (zP E mX12_done [.inr (.inr 102), .inl (M3 124 ((M3 102 42).toNat))] M19 (fun r20 M21 => X M21)))))))))))))))))))))))
