/-! the reference lays all arcs, and leads -/
def rdsOk (M : zM) : Prop := (0 ≤ M 102 76 ∧ M 102 76 ≤ 14) ∧ ∀ r : Nat, (r : Int) < M 102 76 → (0 ≤ M 148 r ∧ M 148 r < M 102 69) ∧ (0 ≤ M 149 r ∧ M 149 r < M 102 69) ∧ (1 ≤ M 150 r ∧ M 150 r ≤ 5) ∧ (1 ≤ M 151 r ∧ M 151 r ≤ 999) ∧ (1 ≤ M 152 r ∧ M 152 r ≤ 6) ∧ (M 153 r = -1 ∨ ((0 ≤ M 153 r ∧ M 153 r < 64) ∧ (1 ≤ M 139 (M 153 r).toNat ∧ M 139 (M 153 r).toNat ≤ 13)))
def lyS (M : zM) (w : Nat) (M' : zM) (st : Int) (L : Arcs) : Prop := (∀ x j, dA x j = false → M' x j = M x j) ∧ M' 102 92 = bgn M w ∧ M' 102 93 = fns M w ∧ M' 102 94 = st ∧ aR M' L
theorem rdA_end {M : zM} {sc : Nat → Int} {w r i : Nat} (h : ∀ j, i ≤ j → ¬ rdOn M sc w r (bgn M w + j)) (k : Nat) : rdA M sc w r (i + k) = rdA M sc w r i := by
  induction k with
  | zero => rfl
  | succ k ih =>
    show rdA M sc w r (i + k) ++ (if rdOn M sc w r (bgn M w + ((i + k : Nat) : Int)) then _ else []) = _
    rw [ih, if_neg (h (i + k) (by omega)), List.append_nil]
set_option maxHeartbeats 8000000 in
theorem r_lays {E : zE} {M : zM} {Q : Int → zM → Prop} {w : Nat} {wf : Nat → Int} (hw : w < 3) (hp : plOk M) (hr : rdsOk M) (hs : 0 ≤ M 132 w ∧ M 132 w ≤ 99) (hlv : ∀ h, h < 100 → zR (M 154 h)) (hwf : ∀ p : Nat, (p : Int) < M 102 69 → M 142 p = 1 → wf p = wat (M 154) (M 145 p) (M 146 p) 0 100)
    (h : ∀ M' : zM, (∀ x j, dA x j = false → M' x j = M x j) → M' 102 92 = bgn M w → M' 102 93 = fns M w → M' 102 94 = styF M (M 139) wf w (M 102 69).toNat → aR M' (netL M (M 139) wf w) → Q 0 M') : zP E mX12_lays [.inr (.inr 102), .inl (w : Int)] M Q := by
  obtain ⟨b1, b2, b3, b4⟩ := bf_r hs
  obtain ⟨D, hD⟩ : ∃ D : Nat, (fns M w - bgn M w).toNat = D := ⟨_, rfl⟩
  rw [hD] at b2 b3
  obtain ⟨P, hP⟩ : ∃ P : Nat, M 102 69 = (P : Int) := ⟨(M 102 69).toNat, by have := hp.1; omega⟩
  obtain ⟨R, hR⟩ : ∃ R : Nat, M 102 76 = (R : Int) := ⟨(M 102 76).toNat, by have := hr.1; omega⟩
  have P8 : P ≤ 8 := by have := hp.1; omega
  have R14 : R ≤ 14 := by have := hr.1; omega
  have base : ∀ M' : zM, (∀ x j, dA x j = false → M' x j = M x j) → plOk M' ∧ (0 ≤ M' 132 w ∧ M' 132 w ≤ 99) ∧ M' 102 69 = (P : Int) ∧ M' 102 76 = (R : Int) ∧ (∀ p, tillP M' (M' 139) w p = tillP M (M 139) w p) ∧ fns M' w = fns M w ∧ bgn M' w = bgn M w ∧ M' 154 = M 154 ∧ M' 139 = M 139 := fun M' f => ⟨plOk_c f hp, by rw [f 132 w rfl]; exact hs, by rw [f 102 69 rfl]; exact hP, by rw [f 102 76 rfl]; exact hR, fun p => (till_c f w p).1, (till_c f w 0).2.1, (till_c f w 0).2.2, funext fun j => f 154 j rfl, funext fun j => f 139 j rfl⟩
  have plc : ∀ (M' : zM) (p : Nat), (∀ x j, dA x j = false → M' x j = M x j) → plA M' (M' 139) wf w p = plA M (M 139) wf w p := fun M' p f => by
    obtain ⟨-, -, -, -, t1, t2, t3, -, -⟩ := base M' f
    unfold plA skA brA
    rw [t1, t2, t3, f 142 p rfl, f 147 p rfl, f 144 p rfl]
  refine vcX12_lays _ (fun m l1 l2 M' => l1 = (w : Int) ∧ ∃ p : Nat, l2 = (p : Int) ∧ p ≤ P ∧ m = 100000 - p ∧ lyS M w M' (styF M (M 139) wf w p) (plsA M (M 139) wf w p))
    (fun m l1 l2 M' => l1 = (w : Int) ∧ ∃ r : Nat, l2 = (r : Int) ∧ r ≤ R ∧ m = 50000 - r * 100 ∧ lyS M w M' (styF M (M 139) wf w P) (plsA M (M 139) wf w P ++ rdsA M (M 139) w r))
    (fun m l1 l2 l3 M' => l1 = (w : Int) ∧ ∃ r i : Nat, l2 = (r : Int) ∧ r < R ∧ l3 = bgn M w + i ∧ i ≤ D ∧ m = 50000 - r * 100 - 1 - i ∧ lyS M w M' (styF M (M 139) wf w P) (plsA M (M 139) wf w P ++ rdsA M (M 139) w r ++ rdA M (M 139) w r i)) ?_ ?_ ?_ ?_
  · have go : ∀ (b : Int) (M4 : zM), b = bgn M w → M4 = zup (zup (zup (zup M 102 92 b) 102 93 (M 132 w + 12)) 102 85 0) 102 94 0 → ∃ n', (fun (m : Nat) (l1 l2 : Int) (M' : zM) => l1 = (w : Int) ∧ ∃ p : Nat, l2 = (p : Int) ∧ p ≤ P ∧ m = 100000 - p ∧ lyS M w M' (styF M (M 139) wf w p) (plsA M (M 139) wf w p)) n' (w : Int) 0 M4 := by
      intro b M4 hb h4
      refine ⟨100000 - 0, rfl, 0, rfl, by omega, rfl, ?_, ?_, ?_, ?_, ?_⟩
      · rw [h4]
        exact fr_t (fr_t (fr_t (fr_up rfl) (fr_up rfl)) (fr_up rfl)) (fr_up rfl)
      · rw [h4, ← hb]; simp [zup_r]
      · rw [h4]; unfold fns; simp [zup_r]
      · rw [h4]; simp [zup_r]; rfl
      · refine ⟨?_, fun a t ht => ?_⟩
        · rw [h4]; simp [zup_r]; rfl
        · have : ([] : Arcs)[a]? = some t := ht
          simp at this
    rw [Int.toNat_natCast]
    refine ⟨by omega, by unfold zR; omega, fun q => ⟨by omega, ?_⟩, fun q => ?_⟩
    · intro M1 h1
      have e1 : M1 132 w = M 132 w := by rw [h1, zup_ne _ _ _ (by decide)]
      rw [e1]
      refine ⟨by omega, fun M2 h2 M3 h3 M4 h4 => go _ M4 (by unfold bgn; rw [if_neg (by omega)]) (by rw [h4, h3, h2, h1])⟩
    · intro M1 h1
      have e1 : M1 132 w = M 132 w := by rw [h1, zup_ne _ _ _ (by decide)]
      rw [e1]
      refine ⟨by omega, fun M2 h2 M3 h3 M4 h4 => go _ M4 (by unfold bgn; rw [if_pos q]) (by rw [h4, h3, h2, h1])⟩
  · rintro m l1 l2 M' ⟨rfl, p, rfl, hpP, rfl, f, eb, ef, es, ha⟩
    obtain ⟨hp', hs', eP, eR, t1, t2, t3, elv, esc⟩ := base M' f
    have ll := plsA_len (sc := M 139) (wf := wf) hs p
    rw [eP, Int.toNat_natCast]
    refine ⟨⟨by unfold zR; omega, by unfold zR; omega⟩, fun q => ?_, fun q => ⟨by omega, ?_⟩⟩
    · have : p = P := by omega
      subst this
      exact ⟨50000 - 0 * 100, by omega, rfl, 0, rfl, by omega, rfl, f, eb, ef, es, by show aR M' (plsA M (M 139) wf w p ++ []); rw [List.append_nil]; exact ha⟩
    · have pp : (p : Int) < M 102 69 := by omega
      have pp' : (p : Int) < M' 102 69 := by omega
      have et : M' 142 p = M 142 p := f 142 p rfl
      rw [et]
      have town : M 142 p = 0 ∨ M 142 p = 1 := by
        rcases hp.2 p pp with ⟨a, -⟩ | ⟨a, -⟩
        · exact Or.inl a
        · exact Or.inr a
      have un : plsA M (M 139) wf w (p + 1) = plsA M (M 139) wf w p ++ plA M (M 139) wf w p := rfl
      have us : styF M (M 139) wf w (p + 1) = styF M (M 139) wf w p + (if M 142 p = 1 ∧ (wf p = -1 ∨ fns M w < wf p) ∧ tillP M (M 139) w p = fns M w then M 144 p else 0) := rfl
      refine ⟨by rcases town with q2 | q2 <;> rw [q2] <;> exact zRd rfl, fun q2 => ?_, fun q2 => ?_⟩
      · refine r_laysShelter (w := w) (wf := wf) hp' pp' (by rw [et]; exact q2) hs' (by rw [eb, t3]) (by rw [ef, t2]) ha (by omega) ?_
        intro M9 f9 a9
        rw [plc M' p f, ← un] at a9
        refine ⟨100000 - (p + 1), by omega, rfl, p + 1, by omega, by omega, rfl, fr_t f (fun x j hx => f9 x j (dB_A x j hx)), by rw [f9 102 92 rfl]; exact eb, by rw [f9 102 93 rfl]; exact ef, ?_, a9⟩
        rw [us, if_neg (fun q3 => by omega), f9 102 94 rfl, es]
        omega
      · have q3 : M 142 p = 1 := town.resolve_left q2
        refine r_laysTown (wf := wf) hw hp' pp' (by rw [et]; exact q3) hs' (by rw [eb, t3]) (by rw [ef, t2]) ha (by omega) (fun j hj => by rw [elv]; exact hlv j hj) (by rw [elv, f 145 p rfl, f 146 p rfl]; exact hwf p pp q3) ?_
        intro M9 f9 a9 s9
        rw [plc M' p f, ← un] at a9
        refine ⟨100000 - (p + 1), by omega, rfl, p + 1, by omega, by omega, rfl, fr_t f (fun x j hx => f9 x j (dT_A x j hx)), by rw [f9 102 92 rfl]; exact eb, by rw [f9 102 93 rfl]; exact ef, ?_, a9⟩
        rw [s9, us, es, t1, t2, et, f 144 p rfl]
  · rintro m l1 l2 M' ⟨rfl, r, rfl, hrR, rfl, f, eb, ef, es, ha⟩
    obtain ⟨hp', hs', eP, eR, t1, t2, t3, elv, esc⟩ := base M' f
    rw [eR, eb]
    refine ⟨⟨by unfold zR; omega, by unfold zR; omega⟩, fun q => ?_, fun q => ?_⟩
    · have : r = R := by omega
      subst this
      refine h M' f eb ef (by rw [hP, Int.toNat_natCast]; exact es) ?_
      unfold netL
      rw [hP, hR, Int.toNat_natCast, Int.toNat_natCast]
      exact ha
    · exact ⟨50000 - r * 100 - 1 - 0, by omega, rfl, r, 0, rfl, by omega, by omega, by omega, rfl, f, eb, ef, es, by show aR M' (plsA M (M 139) wf w P ++ rdsA M (M 139) w r ++ []); rw [List.append_nil]; exact ha⟩
  · rintro m l1 l2 l3 M' ⟨rfl, r, i, rfl, hrR, rfl, hi, rfl, f, eb, ef, es, ha⟩
    obtain ⟨hp', hs', eP, eR, t1, t2, t3, elv, esc⟩ := base M' f
    obtain ⟨c1, c2, c3, c4, c5, c6⟩ := hr.2 r (by omega)
    obtain ⟨a, ea⟩ : ∃ a : Nat, M 148 r = (a : Int) := ⟨(M 148 r).toNat, by omega⟩
    obtain ⟨b, eb'⟩ : ∃ b : Nat, M 149 r = (b : Int) := ⟨(M 149 r).toNat, by omega⟩
    obtain ⟨n, en⟩ : ∃ n : Nat, M 150 r = (n : Int) := ⟨(M 150 r).toNat, by omega⟩
    have ta := till_r (w := w) (p := a) hp (by omega)
    have tb := till_r (w := w) (p := b) hp (by omega)
    have ll1 := plsA_len (sc := M 139) (wf := wf) hs P
    have ll2 := rdsA_len (sc := M 139) hs r
    have ll3 := rdA_len M (M 139) w r i
    have rl : 0 ≤ (r : Int) ∧ (r : Int) < 14 := by omega
    have uo : ∀ j : Nat, rdOn M (M 139) w r (bgn M w + j) ↔ (Int.tmod (bgn M w + j) (M 152 r) = 0 ∧ bgn M w + j ≤ tillP M (M 139) w a ∧ bgn M w + j + n ≤ tillP M (M 139) w b ∧ bgn M w + j + n ≤ tillC M (M 139) w (M 153 r)) := fun j => by
      unfold rdOn
      rw [ea, eb', en, Int.toNat_natCast, Int.toNat_natCast]
    have skip : ¬ rdOn M (M 139) w r (bgn M w + i) → bgn M w + i + n ≤ fns M w → ∃ n', n' < 50000 - r * 100 - 1 - i ∧ (w : Int) = (w : Int) ∧ ∃ r' i' : Nat, (r : Int) = (r' : Int) ∧ r' < R ∧ bgn M w + i + 1 = bgn M w + i' ∧ i' ≤ D ∧ n' = 50000 - r' * 100 - 1 - i' ∧ lyS M w M' (styF M (M 139) wf w P) (plsA M (M 139) wf w P ++ rdsA M (M 139) w r' ++ rdA M (M 139) w r' i') := by
      intro hno hle
      refine ⟨50000 - r * 100 - 1 - (i + 1), by omega, rfl, r, i + 1, rfl, hrR, by omega, by omega, rfl, f, eb, ef, es, ?_⟩
      have un : rdA M (M 139) w r (i + 1) = rdA M (M 139) w r i := by
        show _ ++ _ = _
        rw [if_neg hno, List.append_nil]
      rw [un]
      exact ha
    have put : rdOn M (M 139) w r (bgn M w + i) → bgn M w + i + n ≤ fns M w → zP E mX12_nodeOf [.inr (.inr 102), .inl (a : Int), .inl (bgn M w + i)] M' (fun r17 M18 => (0 ≤ (r : Int) ∧ (r : Int) < 14) ∧ (zP E mX12_nodeOf [.inr (.inr 102), .inl (M18 149 r), .inl (bgn M w + i + n)] M18 (fun r19 M20 => (0 ≤ (r : Int) ∧ (r : Int) < 14) ∧ (zP E mX12_arc [.inr (.inr 102), .inl r17, .inl r19, .inl (M20 151 r)] M20 (fun r21 M22 => ∃ n', n' < 50000 - r * 100 - 1 - i ∧ (w : Int) = (w : Int) ∧ ∃ r' i' : Nat, (r : Int) = (r' : Int) ∧ r' < R ∧ bgn M w + i + 1 = bgn M w + i' ∧ i' ≤ D ∧ n' = 50000 - r' * 100 - 1 - i' ∧ lyS M w M22 (styF M (M 139) wf w P) (plsA M (M 139) wf w P ++ rdsA M (M 139) w r' ++ rdA M (M 139) w r' i')))))) := by
      intro hon hle
      refine vcX12_nodeOf _ _ ⟨rl, ?_⟩
      rw [f 149 r rfl, eb']
      refine vcX12_nodeOf _ _ ⟨rl, ?_⟩
      rw [eb, f 151 r rfl, show 25 * (a : Int) + (bgn M w + i) - bgn M w = ((25 * a + i : Nat) : Int) by omega, show 25 * (b : Int) + (bgn M w + i + n) - bgn M w = ((25 * b + i + n : Nat) : Int) by omega]
      refine r_arc ha (by rw [List.length_append, List.length_append]; omega) ?_
      intro M9 f9 a9
      refine ⟨50000 - r * 100 - 1 - (i + 1), by omega, rfl, r, i + 1, rfl, hrR, by omega, by omega, rfl, fr_t f (fun x j hx => f9 x j (dB_A x j hx)), by rw [f9 102 92 rfl]; exact eb, by rw [f9 102 93 rfl]; exact ef, by rw [f9 102 94 rfl]; exact es, ?_⟩
      have un : rdA M (M 139) w r (i + 1) = rdA M (M 139) w r i ++ [(25 * a + i, 25 * b + i + n, M 151 r)] := by
        show _ ++ _ = _
        rw [if_pos hon, ea, eb', en, Int.toNat_natCast, Int.toNat_natCast, Int.toNat_natCast]
      rw [un, ← List.append_assoc]
      exact a9
    have uoi := uo i
    rw [Int.toNat_natCast, f 150 r rfl, f 152 r rfl, f 148 r rfl, en, ea, ef]
    refine ⟨rl, ⟨by unfold zR; omega, by unfold zR; omega⟩, fun q => ?_, fun q => ⟨rl, rl, ⟨by unfold zR; omega, by unfold zR; omega, by omega⟩, ?_⟩⟩
    · refine ⟨50000 - (r + 1) * 100, by omega, rfl, r + 1, by omega, by omega, rfl, f, eb, ef, es, ?_⟩
      have un : rdsA M (M 139) w (r + 1) = rdsA M (M 139) w r ++ rdA M (M 139) w r i := by
        show _ ++ rdA M (M 139) w r (fns M w - bgn M w).toNat = _
        rw [hD, show D = i + (D - i) by omega, rdA_end (fun j hj => by rw [uo j]; intro q2; omega)]
      rw [un, ← List.append_assoc]
      exact ha
    · have tm : 0 ≤ Int.tmod (bgn M w + i) (M 152 r) ∧ Int.tmod (bgn M w + i) (M 152 r) < 6 := by
        rw [Int.tmod_eq_emod_of_nonneg (by omega)]
        have := Int.emod_nonneg (bgn M w + i) (b := M 152 r) (by omega)
        have := Int.emod_lt_of_pos (bgn M w + i) (b := M 152 r) (by omega)
        omega
      generalize Int.tmod (bgn M w + i) (M 152 r) = tmv at *
      refine ⟨by unfold zR; omega, fun q1 => skip (by rw [uoi]; omega) q, fun q1 => ⟨rl, ?_⟩⟩
      refine r_isOpen hw hp' (by omega) hs' (by rw [t2]; omega) ?_
      rw [t1]
      by_cases g1 : bgn M w + i ≤ tillP M (M 139) w a
      · rw [if_pos g1]
        refine ⟨zRd rfl, fun q2 => absurd q2 (by decide), fun _ => ⟨rl, ?_⟩⟩
        rw [f 149 r rfl, eb']
        refine r_isOpen hw hp' (by omega) hs' (by rw [t2]; omega) ?_
        rw [t1]
        by_cases g2 : bgn M w + i + n ≤ tillP M (M 139) w b
        · rw [if_pos g2]
          refine ⟨zRd rfl, fun q2 => absurd q2 (by decide), fun _ => ⟨rl, ?_⟩⟩
          rw [f 153 r rfl, f 148 r rfl, ea]
          rcases c6 with c6 | ⟨c6, c7⟩
          · rw [c6]
            have on : rdOn M (M 139) w r (bgn M w + i) := by
              rw [uoi, c6]
              refine ⟨q1, g1, g2, ?_⟩
              unfold tillC
              rw [if_pos rfl]
              exact q
            exact ⟨zRd rfl, fun _ => ⟨rl, put on q⟩, fun q2 => absurd rfl q2⟩
          · have tc : tillC M (M 139) w (M 153 r) = M 132 w + M 139 (M 153 r).toNat - 1 := by
              unfold tillC
              rw [if_neg (by omega)]
            rw [tc] at uoi
            refine ⟨by unfold zR; omega, fun q2 => by omega, fun _ => ⟨rl, ?_⟩⟩
            refine vcX12_shutFrom _ _ ?_
            rw [Int.toNat_natCast, esc, f 132 w rfl, f 148 r rfl, ea]
            have fe : fns M w = M 132 w + 12 := rfl
            generalize M 139 (M 153 r).toNat = s at *
            refine ⟨c6, by unfold zR; omega, fun q2 => ⟨by omega, c6, ⟨by unfold zR; omega, by unfold zR; omega⟩, fun q3 => skip (by rw [uoi]; omega) q, fun q3 => ⟨rl, put (by rw [uoi]; omega) q⟩⟩, fun q2 => ⟨⟨zRd rfl, by unfold zR; omega⟩, fun q3 => by omega, fun q3 => ⟨rl, put (by rw [uoi]; omega) q⟩⟩⟩
        · rw [if_neg g2]
          exact ⟨zRd rfl, fun _ => skip (by rw [uoi]; omega) q, fun q2 => absurd rfl q2⟩
      · rw [if_neg g1]
        exact ⟨zRd rfl, fun _ => skip (by rw [uoi]; omega) q, fun q2 => absurd rfl q2⟩
