/-! the reference marks what can be reached -/
theorem zup_a (M : zM) (a i : Nat) (v : Int) : zup M a i v a = up1 (M a) i v := by
  unfold zup up1
  rw [if_pos rfl]
def cdR (e : Nat) : Int := if e % 2 = 0 then ((e / 2 : Nat) : Int) else 1000001 + ((e / 2 : Nat) : Int)
theorem cdR_0 (a : Nat) : cdR (2 * a) = (a : Int) := by
  unfold cdR
  rw [if_pos (by omega), show 2 * a / 2 = a by omega]
theorem cdR_1 (a : Nat) : cdR (2 * a + 1) = 1000001 + (a : Int) := by
  unfold cdR
  rw [if_neg (by omega), show (2 * a + 1) / 2 = a by omega]
def RC (C : Nat → Int) (v e : Nat) : Prop := C v = cdR e
def rNet (M : zM) (n : Nat) (fr to : Nat → Nat) (cap x : Nat → Int) : Prop := M 102 85 = (n : Int) ∧ n ≤ 1400 ∧ (∀ a, a < n → M 156 a = (fr a : Int) ∧ M 157 a = (to a : Int) ∧ M 158 a = cap a - x a ∧ M 159 a = x a ∧ fr a < 402 ∧ to a < 402 ∧ (0 ≤ x a ∧ x a ≤ cap a) ∧ cap a ≤ 1000000)
def cloG (tl hd : Nat → Nat) (sp C : Nat → Int) (m v : Nat) : Prop := ∀ e, e < m → tl e = v → 0 < sp e → C (hd e) ≠ -1
theorem RC_r {n k : Nat} {tl hd : Nat → Nat} {sp C q : Nat → Int} {ρ : Nat → Nat} (h : SPg 402 400 (2 * n) tl hd sp RC C q ρ k) (h0 : C 400 = 1000000) (hn : n ≤ 1400) (v : Nat) (hv : v < 402) : -1 ≤ C v ∧ C v ≤ 1002000 := by
  obtain ⟨-, -, -, -, -, a6⟩ := h
  by_cases h1 : C v = -1
  · omega
  · by_cases h2 : v = 400
    · rw [h2]; omega
    · obtain ⟨e, e1, -, -, -, -, -, e7⟩ := a6 v hv h2 h1
      have e7 : C v = cdR e := e7
      obtain ⟨a, ea | ea⟩ := par e
      · rw [ea, cdR_0] at e7; omega
      · rw [ea, cdR_1] at e7; omega
def spJ (M0 : zM) (n : Nat) (fr to : Nat → Nat) (cap x : Nat → Int) (hd k xn j : Nat) (ρ : Nat → Nat) (M' : zM) : Prop :=
  (∀ y, y ≠ 160 → y ≠ 161 → M' y = M0 y) ∧ hd < k ∧ SPg 402 400 (2 * n) (rtl fr to) (rhd fr to) (rsp cap x) RC (M' 160) (M' 161) ρ k ∧ M' 160 400 = 1000000 ∧
  (∀ v, v < 402 → M' 160 v ≠ -1 → ρ v < hd → cloG (rtl fr to) (rhd fr to) (rsp cap x) (M' 160) (2 * n) v) ∧ (xn < 402 ∧ M' 160 xn ≠ -1 ∧ ρ xn = hd) ∧ cloG (rtl fr to) (rhd fr to) (rsp cap x) (M' 160) (2 * j) xn
theorem spJ_skip {M0 : zM} {n : Nat} {fr to : Nat → Nat} {cap x : Nat → Int} {hd k xn j : Nat} {ρ : Nat → Nat} {M' : zM} (h : spJ M0 n fr to cap x hd k xn j ρ M') (h1 : fr j = xn → 0 < cap j - x j → M' 160 (to j) ≠ -1) (h2 : to j = xn → 0 < x j → M' 160 (fr j) ≠ -1) : spJ M0 n fr to cap x hd k xn (j + 1) ρ M' := by
  obtain ⟨a1, a2, a3, a4, a5, a6, a7⟩ := h
  refine ⟨a1, a2, a3, a4, a5, a6, fun e he he1 he2 => ?_⟩
  by_cases q : e < 2 * j
  · exact a7 e q he1 he2
  · have : e = 2 * j ∨ e = 2 * j + 1 := by omega
    rcases this with q | q
    · subst q
      rw [rtl_0] at he1
      rw [rsp_0] at he2
      rw [rhd_0]
      exact h1 he1 he2
    · subst q
      rw [rtl_1] at he1
      rw [rsp_1] at he2
      rw [rhd_1]
      exact h2 he1 he2
theorem rtl_opp (fr to : Nat → Nat) {e e' : Nat} (h : e / 2 = e' / 2) (h2 : e ≠ e') : rtl fr to e' = rhd fr to e := by
  obtain ⟨a, ea | ea⟩ := par e
  · subst ea
    have : e' = 2 * a + 1 := by omega
    subst this
    rw [rtl_1, rhd_0]
  · subst ea
    have : e' = 2 * a := by omega
    subst this
    rw [rtl_0, rhd_1]
theorem spJ_add {M0 : zM} {n : Nat} {fr to : Nat → Nat} {cap x : Nat → Int} {hd k xn j e u : Nat} {ρ : Nat → Nat} {M' M5 : zM} (h : spJ M0 n fr to cap x hd k xn j ρ M') (hj : j < n) (he : e = 2 * j ∨ e = 2 * j + 1) (e1 : rtl fr to e = xn) (e2 : 0 < rsp cap x e) (e3 : rhd fr to e = u) (hu : u < 402) (h0 : M' 160 u = -1)
    (f1 : ∀ y, y ≠ 160 → y ≠ 161 → M5 y = M' y) (f2 : M5 160 = up1 (M' 160) u (cdR e)) (f3 : M5 161 = up1 (M' 161) k (u : Int)) : k < 402 ∧ spJ M0 n fr to cap x hd (k + 1) xn (j + 1) (up1 ρ u k) M5 := by
  obtain ⟨a1, a2, a3, a4, a5, ⟨a6, a8, a9⟩, a7⟩ := h
  have nc : cdR e ≠ -1 := by
    rcases he with q | q
    · rw [q, cdR_0]; omega
    · rw [q, cdR_1]; omega
  have nu : ∀ v, M' 160 v ≠ -1 → v ≠ u := fun v hv e => hv (by rw [e]; exact h0)
  obtain ⟨kl, sp'⟩ := SPg_add a3 hu h0 nc (e := e) (by omega) e3 e2 (by rw [e1]; exact a8) (by rw [e1]; exact a6) (by unfold RC; rw [up1_s]) (fun v e hv _ hr => by unfold RC at hr ⊢; rw [up1_n _ _ hv]; exact hr)
  rw [← f2, ← f3] at sp'
  have mk : ∀ v, M' 160 v ≠ -1 → M5 160 v ≠ -1 := fun v hv => by rw [f2, up1_n _ _ (nu v hv)]; exact hv
  have mk2 : ∀ m v, cloG (rtl fr to) (rhd fr to) (rsp cap x) (M' 160) m v → cloG (rtl fr to) (rhd fr to) (rsp cap x) (M5 160) m v := fun m v hc e he h1 h2 => mk _ (hc e he h1 h2)
  refine ⟨kl, fun y y1 y2 => by rw [f1 y y1 y2, a1 y y1 y2], by omega, sp', by rw [f2, up1_n _ _ (nu 400 (by rw [a4]; decide))]; exact a4, fun v hv h1 h2 => ?_, ⟨a6, mk _ a8, by rw [up1_n _ _ (nu _ a8)]; exact a9⟩, fun e' he' h1 h2 => ?_⟩
  · by_cases q : v = u
    · rw [q, up1_s] at h2
      omega
    · rw [up1_n _ _ q] at h2
      rw [f2, up1_n _ _ q] at h1
      exact mk2 _ _ (a5 v hv h1 h2)
  · by_cases q : e' < 2 * j
    · exact mk2 _ _ a7 e' q h1 h2
    · by_cases q2 : e' = e
      · rw [q2, e3, f2, up1_s]
        exact nc
      · exfalso
        have := rtl_opp fr to (e := e) (e' := e') (by omega) (fun r => q2 r.symm)
        rw [this, e3] at h1
        exact nu _ a8 h1.symm
set_option maxHeartbeats 4000000 in
theorem r_spreads {E : zE} {M : zM} {Q : Int → zM → Prop} {n : Nat} {fr to : Nat → Nat} {cap x : Nat → Int} (hN : rNet M n fr to cap x)
    (h : ∀ (M' : zM) (ρ : Nat → Nat) (k : Nat), (∀ y, y ≠ 160 → y ≠ 161 → M' y = M y) → SPg 402 400 (2 * n) (rtl fr to) (rhd fr to) (rsp cap x) RC (M' 160) (M' 161) ρ k → M' 160 400 = 1000000 → clsd (2 * n) (rtl fr to) (rhd fr to) (rsp cap x) (fun v => decide (M' 160 v ≠ -1)) → Q (if M' 160 401 = -1 then 0 else 1) M') : zP E mX12_spreads [.inr (.inr 102)] M Q := by
  obtain ⟨n1, n2, n3⟩ := hN
  refine vcX12_spreads (fun m l1 M' => ∃ i : Nat, l1 = (i : Int) ∧ i ≤ 402 ∧ m = 807000 - i ∧ (∀ y, y ≠ 160 → y ≠ 161 → M' y = M y) ∧ ∀ v, v < i → M' 160 v = -1)
    (fun m l1 l2 M' => ∃ (hd k : Nat) (ρ : Nat → Nat), l1 = (hd : Int) ∧ l2 = (k : Int) ∧ m = (403 - hd) * 2000 ∧ hd ≤ k ∧ (∀ y, y ≠ 160 → y ≠ 161 → M' y = M y) ∧ SPg 402 400 (2 * n) (rtl fr to) (rhd fr to) (rsp cap x) RC (M' 160) (M' 161) ρ k ∧ M' 160 400 = 1000000 ∧ (∀ v, v < 402 → M' 160 v ≠ -1 → ρ v < hd → cloG (rtl fr to) (rhd fr to) (rsp cap x) (M' 160) (2 * n) v))
    (fun m l1 l2 l3 l4 M' => ∃ (hd k xn j : Nat) (ρ : Nat → Nat), l1 = (hd : Int) + 1 ∧ l2 = (k : Int) ∧ l3 = (xn : Int) ∧ l4 = (j : Int) ∧ j ≤ n ∧ m = (402 - hd) * 2000 + 1 + (n - j) ∧ spJ M n fr to cap x hd k xn j ρ M') ⟨807000, 0, rfl, by omega, rfl, fun _ _ _ => rfl, fun v hv => by omega⟩ ?_ ?_ ?_
  · rintro m l1 M' ⟨i, rfl, hi, rfl, fr', hv⟩
    refine ⟨by unfold zR; omega, fun q => ?_, fun q => ⟨by omega, ?_⟩⟩
    · intro M1 h1 M2 h2
      have i402 : i = 402 := by omega
      subst i402
      have s0 := SPg_0 (m := 2 * n) (tl := rtl fr to) (hd := rhd fr to) (sp := rsp cap x) (R := RC) (q := M' 161) (c := 1000000) (s := 400) (N := 402) (by omega) hv (by decide)
      have c2 : M2 160 = up1 (M' 160) 400 1000000 := by rw [h2, zup_ne _ _ _ (by decide), h1, zup_a]
      have q2 : M2 161 = up1 (M' 161) 0 400 := by rw [h2, zup_a, h1, zup_ne _ _ _ (by decide)]
      rw [← c2, show (((400 : Nat) : Int)) = 400 from rfl, ← q2] at s0
      refine ⟨(403 - 0) * 2000, by omega, 0, 1, fun _ => 0, rfl, rfl, rfl, by omega, fun y y1 y2 => by rw [h2, zup_ne _ _ _ y2, h1, zup_ne _ _ _ y1]; exact fr' y y1 y2, s0, by rw [c2, up1_s], fun v _ _ hh => by omega⟩
    · intro M3 h3
      refine ⟨807000 - (i + 1), by omega, i + 1, by omega, by omega, rfl, fun y y1 y2 => by rw [h3, zup_ne _ _ _ y1]; exact fr' y y1 y2, fun v hv' => ?_⟩
      rw [h3, zup_a, Int.toNat_natCast]
      by_cases q2 : v = i
      · rw [q2, up1_s]
      · rw [up1_n _ _ q2]
        exact hv v (by omega)
  · rintro m l1 l2 M' ⟨hd, k, ρ, rfl, rfl, rfl, hk, fr', sp, c4, cl⟩
    have kb := sp.1
    refine ⟨⟨by unfold zR; omega, by unfold zR; omega⟩, fun q => ?_, fun q => ⟨by omega, ?_⟩⟩
    · have cz := RC_r sp c4 n2 401 (by omega)
      have fin := h M' ρ k fr' sp c4 (fun e he h1 h2 => by
        have h1 := of_decide_eq_true h1
        have tN : rtl fr to e < 402 := by
          obtain ⟨a, ea | ea⟩ := par e
          · rw [ea, rtl_0]; exact (n3 a (by omega)).2.2.2.2.1
          · rw [ea, rtl_1]; exact (n3 a (by omega)).2.2.2.2.2.1
        exact decide_eq_true (cl _ tN h1 (by have := (sp.2.2.2.1 _ tN h1).1; omega) e he rfl h2))
      refine ⟨by unfold zR; omega, fun q2 => ?_, fun q2 => ?_⟩
      · rw [if_pos q2] at fin; exact fin
      · rw [if_neg q2] at fin; exact fin
    · obtain ⟨v, v1, v2, v3, v4⟩ := sp.2.2.1 hd (by omega)
      rw [Int.toNat_natCast, v1]
      exact ⟨(402 - hd) * 2000 + 1 + (n - 0), by omega, hd, k, v, 0, ρ, rfl, rfl, rfl, rfl, by omega, rfl, fr', by omega, sp, c4, cl, ⟨v2, v3, v4⟩, fun e he => by omega⟩
  · rintro m l1 l2 l3 l4 M' ⟨hd, k, xn, j, ρ, rfl, rfl, rfl, rfl, hj, rfl, hJ⟩
    have fr' := hJ.1
    have sp := hJ.2.2.1
    have c4 := hJ.2.2.2.1
    have hx := hJ.2.2.2.2.2.1
    have hdk := hJ.2.1
    have kb := sp.1
    have eA : M' 102 85 = (n : Int) := by rw [fr' 102 (by decide) (by decide)]; exact n1
    rw [eA, Int.toNat_natCast]
    refine ⟨⟨by unfold zR; omega, by unfold zR; omega⟩, fun q => ?_, fun q => ⟨by omega, ?_⟩⟩
    · have jn : j = n := by omega
      subst jn
      refine ⟨(403 - (hd + 1)) * 2000, by omega, hd + 1, k, ρ, by omega, rfl, rfl, by omega, fr', sp, c4, fun v hv h1 h2 => ?_⟩
      by_cases q2 : ρ v < hd
      · exact hJ.2.2.2.2.1 v hv h1 q2
      · have : v = xn := by
          have e1 := (sp.2.2.2.1 v hv h1).2
          have e2 := (sp.2.2.2.1 xn hx.1 hx.2.1).2
          rw [hx.2.2] at e2
          rw [show ρ v = hd by omega, e2] at e1
          omega
        rw [this]
        exact hJ.2.2.2.2.2.2
    · have jn : j < n := by omega
      obtain ⟨b1, b2, b3, b4, b5, b6, b7, b8⟩ := n3 j jn
      have g1 : M' 156 j = (fr j : Int) := by rw [fr' 156 (by decide) (by decide)]; exact b1
      have g2 : M' 157 j = (to j : Int) := by rw [fr' 157 (by decide) (by decide)]; exact b2
      have g3 : M' 158 j = cap j - x j := by rw [fr' 158 (by decide) (by decide)]; exact b3
      have g4 : M' 159 j = x j := by rw [fr' 159 (by decide) (by decide)]; exact b4
      have cz : ∀ v, v < 402 → zR (M' 160 v) := fun v hv => by have := RC_r sp c4 n2 v hv; unfold zR; omega
      have skip : (fr j = xn → 0 < cap j - x j → M' 160 (to j) ≠ -1) → (to j = xn → 0 < x j → M' 160 (fr j) ≠ -1) → ∃ n', n' < (402 - hd) * 2000 + 1 + (n - j) ∧ ∃ (hd' k' xn' j' : Nat) (ρ : Nat → Nat), (hd : Int) + 1 = (hd' : Int) + 1 ∧ (k : Int) = (k' : Int) ∧ (xn : Int) = (xn' : Int) ∧ (j : Int) + 1 = (j' : Int) ∧ j' ≤ n ∧ n' = (402 - hd') * 2000 + 1 + (n - j') ∧ spJ M n fr to cap x hd' k' xn' j' ρ M' := fun h1 h2 => ⟨(402 - hd) * 2000 + 1 + (n - (j + 1)), by omega, hd, k, xn, j + 1, ρ, rfl, rfl, rfl, by omega, by omega, rfl, spJ_skip hJ h1 h2⟩
      have add : ∀ (e u : Nat) (M5 : zM), (e = 2 * j ∨ e = 2 * j + 1) → rtl fr to e = xn → 0 < rsp cap x e → rhd fr to e = u → u < 402 → M' 160 u = -1 → (∀ y, y ≠ 160 → y ≠ 161 → M5 y = M' y) → M5 160 = up1 (M' 160) u (cdR e) → M5 161 = up1 (M' 161) k (u : Int) → ∃ n', n' < (402 - hd) * 2000 + 1 + (n - j) ∧ ∃ (hd' k' xn' j' : Nat) (ρ : Nat → Nat), (hd : Int) + 1 = (hd' : Int) + 1 ∧ (k : Int) + 1 = (k' : Int) ∧ (xn : Int) = (xn' : Int) ∧ (j : Int) + 1 = (j' : Int) ∧ j' ≤ n ∧ n' = (402 - hd') * 2000 + 1 + (n - j') ∧ spJ M n fr to cap x hd' k' xn' j' ρ M5 := fun e u M5 a1 a2 a3 a4 a5 a6 a7 a8 a9 => ⟨(402 - hd) * 2000 + 1 + (n - (j + 1)), by omega, hd, k + 1, xn, j + 1, up1 ρ u k, rfl, by omega, rfl, by omega, by omega, rfl, (spJ_add hJ jn a1 a2 a3 a4 a5 a6 a7 a8 a9).2⟩
      have kl : ∀ u, u < 402 → M' 160 u = -1 → k < 402 := fun u hu h0 => by
        have := cnt_lt hu h0
        have := sp.2.2.2.2.1
        omega
      rw [g1, g2, g3, g4, Int.toNat_natCast, Int.toNat_natCast, Int.toNat_natCast]
      have jb : 0 ≤ (j : Int) ∧ (j : Int) < 1400 := by omega
      have xz : zR (xn : Int) := by unfold zR; omega
      have fz : zR (fr j : Int) := by unfold zR; omega
      have tz : zR (to j : Int) := by unfold zR; omega
      have lz : zR (cap j - x j) := by unfold zR; omega
      have bz : zR (x j) := by unfold zR; omega
      have fb : 0 ≤ (fr j : Int) ∧ (fr j : Int) < 402 := by omega
      have tb : 0 ≤ (to j : Int) ∧ (to j : Int) < 402 := by omega
      have addB : (to j = xn) → 0 < x j → M' 160 (fr j) = -1 → (∀ M4, M4 = zup M' 160 (fr j) (1000001 + (j : Int)) → (0 ≤ (j : Int) ∧ (j : Int) < 1400) ∧ (0 ≤ (k : Int) ∧ (k : Int) < 402) ∧ (∀ M5, M5 = zup M4 161 k (M4 156 j) → ∃ n', n' < (402 - hd) * 2000 + 1 + (n - j) ∧ ∃ (hd' k' xn' j' : Nat) (ρ : Nat → Nat), (hd : Int) + 1 = (hd' : Int) + 1 ∧ (k : Int) + 1 = (k' : Int) ∧ (xn : Int) = (xn' : Int) ∧ (j : Int) + 1 = (j' : Int) ∧ j' ≤ n ∧ n' = (402 - hd') * 2000 + 1 + (n - j') ∧ spJ M n fr to cap x hd' k' xn' j' ρ M5)) := by
        intro t1 t2 t3 M4 h4
        refine ⟨jb, by have := kl _ b5 t3; omega, fun M5 h5 => ?_⟩
        refine add (2 * j + 1) (fr j) M5 (Or.inr rfl) (by rw [rtl_1]; exact t1) (by rw [rsp_1]; exact t2) (by rw [rhd_1]) b5 t3 (fun y y1 y2 => by rw [h5, zup_ne _ _ _ y2, h4, zup_ne _ _ _ y1]) (by rw [h5, zup_ne _ _ _ (by decide), h4, zup_a, cdR_1]) ?_
        rw [h5, zup_a, h4, zup_ne _ _ _ (by decide), zup_ne _ _ _ (by decide), g1]
      refine ⟨⟨fz, xz⟩, fun q1 => ?_, fun q1 => ⟨jb, lz, fun q2 => ?_, fun q2 => ⟨jb, tb, cz _ b6, fun q3 => ?_, fun q3 => ⟨jb, tb, ?_⟩⟩⟩⟩
      · have F : fr j = xn → 0 < cap j - x j → M' 160 (to j) ≠ -1 := fun e => absurd (congrArg Int.ofNat e) q1
        exact ⟨jb, ⟨tz, xz⟩, fun p1 => skip F (fun e => absurd (congrArg Int.ofNat e) p1), fun p1 => ⟨jb, bz, fun p2 => skip F (fun _ e => absurd p2 (by omega)), fun p2 => ⟨jb, fb, cz _ b5, fun p3 => skip F (fun _ _ => p3), fun p3 => ⟨jb, fb, addB (by omega) p2 p3⟩⟩⟩⟩
      · have F : fr j = xn → 0 < cap j - x j → M' 160 (to j) ≠ -1 := fun _ e => absurd q2 (by omega)
        exact ⟨jb, ⟨tz, xz⟩, fun p1 => skip F (fun e => absurd (congrArg Int.ofNat e) p1), fun p1 => ⟨jb, bz, fun p2 => skip F (fun _ e => absurd p2 (by omega)), fun p2 => ⟨jb, fb, cz _ b5, fun p3 => skip F (fun _ _ => p3), fun p3 => ⟨jb, fb, addB (by omega) p2 p3⟩⟩⟩⟩
      · have F : fr j = xn → 0 < cap j - x j → M' 160 (to j) ≠ -1 := fun _ _ => q3
        exact ⟨jb, ⟨tz, xz⟩, fun p1 => skip F (fun e => absurd (congrArg Int.ofNat e) p1), fun p1 => ⟨jb, bz, fun p2 => skip F (fun _ e => absurd p2 (by omega)), fun p2 => ⟨jb, fb, cz _ b5, fun p3 => skip F (fun _ _ => p3), fun p3 => ⟨jb, fb, addB (by omega) p2 p3⟩⟩⟩⟩
      · intro M4 h4
        refine ⟨jb, by have := kl _ b6 q3; omega, fun M5 h5 => ?_⟩
        refine add (2 * j) (to j) M5 (Or.inl rfl) (by rw [rtl_0]; omega) (by rw [rsp_0]; exact q2) (by rw [rhd_0]) b6 q3 (fun y y1 y2 => by rw [h5, zup_ne _ _ _ y2, h4, zup_ne _ _ _ y1]) (by rw [h5, zup_ne _ _ _ (by decide), h4, zup_a, cdR_0]) ?_
        rw [h5, zup_a, h4, zup_ne _ _ _ (by decide), zup_ne _ _ _ (by decide), g2]
