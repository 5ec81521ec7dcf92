/-! the reader of rules: binding in the reference and in the class, on -/
theorem bd_core {E : zE} {M : zM} {Q : Int → zM → Prop} {f : Nat} {V : zM} {o0 c w kn : Nat} {s : List Nat} {least : Int} {X : zM → Prop} (hf : f = 6 ∨ f = 13) (hL : 1 ≤ least ∧ least ≤ 7) (hw : w ≤ 72) (h : eInv f V M o0 c w kn 1 s)
    (h0 : (w = 0 ∨ wgt (M 123 (w - 1)) < least) → Q 0 M)
    (h1 : ∀ (M' : zM) (v : Nat) (s' : List Nat), w = v + 1 → least ≤ wgt (M 123 v) → eInv f (ppV f V v (V 4 v)) M' o0 (c + 1) v kn 1 s' → (∀ x j, dBn x j = false → M' x j = M x j) → agr (shM V M) (shM (ppV f V v (V 4 v)) M') f (o0 + c) → X M') : bdF E Q least X M := by
  obtain ⟨⟨i1, i2⟩, i3, i4, i5, ⟨i6, i7, i8⟩, ⟨i9, i10⟩, i11, i12, i13⟩ := id h
  unfold bdF
  rw [i9]
  refine ⟨by unfold zR; omega, fun q => h0 (Or.inl (by omega)), fun q => ?_⟩
  obtain ⟨v, rfl⟩ : ∃ v, w = v + 1 := ⟨w - 1, by omega⟩
  have ev2 : ((v + 1 : Nat) : Int) - 1 = (v : Int) := by omega
  rw [ev2, Int.toNat_natCast]
  obtain ⟨ww, zk⟩ := wt_w (i11 v (by omega))
  have wr := stre_r (V 4 v)
  refine ⟨by omega, r_weight zk ⟨⟨by unfold zR; omega, by unfold zR; omega⟩, fun q1 => h0 (Or.inr q1), fun q1 M3 m3 => ?_⟩⟩
  rw [i9, ev2] at m3
  have e1 : M3 102 42 = (v : Int) := by rw [m3, zup_q, if_pos ⟨rfl, rfl⟩]
  have e2 : M3 123 = M 123 := by rw [m3, zup_ne _ _ _ (by decide)]
  have e3 : M3 124 = M 124 := by rw [m3, zup_ne _ _ _ (by decide)]
  have e4 : M3 125 = M 125 := by rw [m3, zup_ne _ _ _ (by decide)]
  have e5 : M3 102 44 = M 102 44 := by rw [m3, zup_q, if_neg (by decide)]
  have e6 : M3 102 39 = M 102 39 := by rw [m3, zup_q, if_neg (by decide)]
  rw [e1, e2, e3, Int.toNat_natCast]
  have k100 : M 123 v ≠ 100 := fun q2 => by
    rw [q2] at q1
    have : wgt 100 = 0 := rfl
    omega
  have un : (M 123 v = 11 ∨ M 123 v = 12) → zP E mX12_drop [.inr (.inr 102)] M3 (fun r4 M5 => (0 ≤ M 124 v ∧ M 124 v < 128) ∧ (∀ M6, M6 = zup M5 114 ((M 124 v).toNat) r4 → (zP E mX12_done [.inr (.inr 102), .inl (M 124 v)] M6 (fun r7 M8 => X M8)))) := fun hk => by
    obtain ⟨a, r, a1, a2, a3, a4, a5, a6, a7, a8⟩ := e_b1 hf h hk
    have et : (M 124 v).toNat = 64 + a := by rw [a1]; omega
    refine r_drop (hh := r.length) (by rw [e5]; exact a3) (by omega) ⟨by omega, fun M6 m6 => ?_⟩
    rw [et] at m6
    rw [a1]
    refine r_done (o := o0 + c) (hh := r.length) (by rw [m6, zup_ne _ _ _ (by decide), zup_q, if_neg (by decide), e6]; exact a6) (by omega) (by rw [m6, zup_ne _ _ _ (by decide), zup_q, if_pos ⟨rfl, rfl⟩]) (by omega) ?_
    have em : doM M6 (o0 + c) r.length (64 + (a : Int)) = b1M M (o0 + c) r.length v a := by rw [m6, e4, m3]; rfl
    rw [em]
    exact h1 _ v (a :: r) rfl q1 a7 (b1_fr M (o0 + c) r.length v a) a8
  refine ⟨by omega, by omega, zk, fun q11 => un (Or.inl q11), fun q11 => ⟨by omega, zk, fun q12 => un (Or.inr q12), fun q12 => ?_⟩⟩
  obtain ⟨a, r, a1, a2, a3, a4, a5, a6, a7, a8⟩ := e_b2 hf h ⟨k100, q11, q12⟩
  have et : (M 124 v).toNat = 64 + a := by rw [a1]; omega
  refine r_drop (hh := r.length + 1) (by rw [e5, a3]; omega) (by omega) ⟨by omega, fun M16 m16 => ?_⟩
  rw [et] at m16
  have f1 : M16 125 = M 125 := by rw [m16, zup_ne _ _ _ (by decide), zup_ne _ _ _ (by decide), e4]
  refine r_drop (hh := r.length) (by rw [m16, zup_ne _ _ _ (by decide), zup_q, if_pos ⟨rfl, rfl⟩]; omega) (by omega) ⟨by omega, fun M19 m19 => ?_⟩
  rw [et] at m19
  rw [a1]
  refine r_done (o := o0 + c) (hh := r.length) (by rw [m19, zup_ne _ _ _ (by decide), zup_q, if_neg (by decide), m16, zup_ne _ _ _ (by decide), zup_q, if_neg (by decide), e6]; exact a6) (by omega) (by rw [m19, zup_ne _ _ _ (by decide), zup_q, if_pos ⟨rfl, rfl⟩]) (by omega) ?_
  have em : doM M19 (o0 + c) r.length (64 + (a : Int)) = b2M M (o0 + c) r.length v a := by rw [m19, f1, m16, e4, m3]; rfl
  rw [em]
  exact h1 _ v (a :: r) rfl q1 a7 (b2_fr M (o0 + c) r.length v a) a8
theorem stl_pop {f : Nat} {V : zM} {least : Int} {v : Nat} (hc : V 1 7 = ((v + 1 : Nat) : Int)) (h : least ≤ stre (V 4 v)) : stlM f least (v + 1) V = stlM f least v (ppV f V v (V 4 v)) := by
  have e : (V 1 7 - 1).toNat = v := by omega
  have e2 : V 1 7 - 1 = (v : Int) := by omega
  show (if 0 < V 1 7 ∧ least ≤ stre (V 4 (V 1 7 - 1).toNat) then stlM f least v (wrM (zup V 1 7 (V 1 7 - 1)) f (V 4 (V 1 7 - 1).toNat) 0 0) else V) = _
  rw [e, e2, if_pos ⟨by omega, h⟩]
  rfl
theorem stl_stop {f : Nat} {V : zM} {least : Int} {w : Nat} (hc : V 1 7 = (w : Int)) (h : w = 0 ∨ stre (V 4 (w - 1)) < least) : stlM f least w V = V := by
  cases w with
  | zero => rfl
  | succ v =>
    have e : (V 1 7 - 1).toNat = v := by omega
    have h : stre (V 4 v) < least := h.resolve_left (by omega)
    show (if 0 < V 1 7 ∧ least ≤ stre (V 4 (V 1 7 - 1).toNat) then _ else V) = V
    rw [e, if_neg (fun q => by omega)]
theorem e_wt {f : Nat} {V M : zM} {o0 c w kn vl : Nat} {s : List Nat} (h : eInv f V M o0 c w kn vl s) : V 1 7 = (w : Int) ∧ M 102 42 = (w : Int) ∧ ∀ i, i < w → wtR (V 4 i) (M 123 i) := ⟨h.2.2.2.2.2.1.2, h.2.2.2.2.2.1.1, h.2.2.2.2.2.2.1⟩
theorem r_bind {E : zE} {M : zM} {Q : Int → zM → Prop} {f : Nat} {V : zM} {o0 c w kn : Nat} {s : List Nat} {least : Int} (hf : f = 6 ∨ f = 13) (hL : 1 ≤ least ∧ least ≤ 7) (hw : w ≤ 72) (h : eInv f V M o0 c w kn 1 s)
    (hQ : ∀ (M' : zM) (c' w' : Nat) (s' : List Nat), eInv f (stlM f least w V) M' o0 c' w' kn 1 s' → (∀ x j, dBn x j = false → M' x j = M x j) → agr (shM V M) (shM (stlM f least w V) M') f (o0 + c) → c ≤ c' → w' ≤ w → (w' = 0 ∨ wgt (M' 123 (w' - 1)) < least) → Q 0 M') : zP E mX12_bind [.inr (.inr 102), .inl least] M Q := by
  have key : ∀ (X : zM → Prop) (n c1 : Nat) (s1 : List Nat) (V1 M1 : zM), eInv f V1 M1 o0 c1 n kn 1 s1 → stlM f least n V1 = stlM f least w V → (∀ x j, dBn x j = false → M1 x j = M x j) → agr (shM V M) (shM V1 M1) f (o0 + c) → c ≤ c1 → n ≤ w →
      (∀ (v c2 : Nat) (s2 : List Nat) (V2 M2 : zM), n = v + 1 → eInv f V2 M2 o0 c2 v kn 1 s2 → stlM f least v V2 = stlM f least w V → (∀ x j, dBn x j = false → M2 x j = M x j) → agr (shM V M) (shM V2 M2) f (o0 + c) → c ≤ c2 → v ≤ w → X M2) → bdF E Q least X M1 := by
    intro X n c1 s1 V1 M1 k1 k2 k3 k4 k5 k6 kX
    obtain ⟨t1, t2, t3⟩ := e_wt k1
    refine bd_core hf hL (by omega) k1 (fun q => ?_) (fun M' v s' q1 q2 q3 q4 q5 => ?_)
    · have st : stlM f least n V1 = V1 := stl_stop t1 (by
        rcases q with q | q
        · exact Or.inl q
        · by_cases q0 : n = 0
          · exact Or.inl q0
          · refine Or.inr ?_
            rw [(wt_w (t3 (n - 1) (by omega))).1]
            exact q)
      rw [k2] at st
      refine hQ M1 c1 n s1 (by rw [st]; exact k1) k3 (by rw [st]; exact k4) k5 k6 q
    · subst q1
      refine kX v (c1 + 1) s' _ M' rfl q3 ?_ (fxt k3 q4) (agr_t k4 q5 (by omega)) (by omega) (by omega)
      rw [← k2]
      exact (stl_pop t1 (by rw [(wt_w (t3 v (by omega))).1]; exact q2)).symm
  refine vcX12_bind _ (fun n l M1 => l = least ∧ ∃ (c1 : Nat) (s1 : List Nat) (V1 : zM), eInv f V1 M1 o0 c1 n kn 1 s1 ∧ stlM f least n V1 = stlM f least w V ∧ (∀ x j, dBn x j = false → M1 x j = M x j) ∧ agr (shM V M) (shM V1 M1) f (o0 + c) ∧ c ≤ c1 ∧ n ≤ w) ?_ ?_
  · exact key (fun M2 => ∃ n', least = least ∧ ∃ (c1 : Nat) (s1 : List Nat) (V1 : zM), eInv f V1 M2 o0 c1 n' kn 1 s1 ∧ stlM f least n' V1 = stlM f least w V ∧ (∀ x j, dBn x j = false → M2 x j = M x j) ∧ agr (shM V M) (shM V1 M2) f (o0 + c) ∧ c ≤ c1 ∧ n' ≤ w) w c s V M h rfl (fun _ _ _ => rfl) (agr_r _ _ _) (Nat.le_refl _) (Nat.le_refl _) (fun v c2 s2 V2 M2 _ k1 k2 k3 k4 k5 k6 => ⟨v, rfl, c2, s2, V2, k1, k2, k3, k4, k5, k6⟩)
  · rintro n l M1 ⟨rfl, c1, s1, V1, k1, k2, k3, k4, k5, k6⟩
    exact key (fun M2 => ∃ n', n' < n ∧ (l = l ∧ ∃ (c1 : Nat) (s1 : List Nat) (V1 : zM), eInv f V1 M2 o0 c1 n' kn 1 s1 ∧ stlM f l n' V1 = stlM f l w V ∧ (∀ x j, dBn x j = false → M2 x j = M x j) ∧ agr (shM V M) (shM V1 M2) f (o0 + c) ∧ c ≤ c1 ∧ n' ≤ w)) n c1 s1 V1 M1 k1 k2 k3 k4 k5 k6 (fun v c2 s2 V2 M2 q k1 k2 k3 k4 k5 k6 => ⟨v, by omega, rfl, c2, s2, V2, k1, k2, k3, k4, k5, k6⟩)
