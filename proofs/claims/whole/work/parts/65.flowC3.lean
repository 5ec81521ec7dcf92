/-! the class lays by distance, and brings the most through -/
def RD (tl : Nat → Nat) (C : Nat → Int) (v e : Nat) : Prop := C v = C (tl e) + 1
def cpJ (M0 : zM) (n : Nat) (fr to : Nat → Nat) (cap x : Nat → Int) (hd k : Nat) (ρ : Nat → Nat) (M' : zM) : Prop :=
  (∀ y, y ≠ 62 → y ≠ 64 → M' y = M0 y) ∧ SPg 202 200 (2 * n) (rtl fr to) (rhd fr to) (rsp cap x) (RD (rtl fr to)) (M' 62) (M' 64) ρ k ∧ M' 62 200 = 0 ∧ (∀ v, v < 202 → M' 62 v ≠ -1 → 0 ≤ M' 62 v ∧ M' 62 v ≤ ρ v) ∧
  (∀ v, v < 202 → M' 62 v ≠ -1 → ρ v < hd → cloG (rtl fr to) (rhd fr to) (rsp cap x) (M' 62) (2 * n) v)
theorem cpJ_add {M0 : zM} {n : Nat} {fr to : Nat → Nat} {cap x : Nat → Int} {hd k xn e u : Nat} {ρ : Nat → Nat} {M' M5 : zM} (h : cpJ M0 n fr to cap x hd k ρ M') (hx : xn < 202 ∧ M' 62 xn ≠ -1 ∧ ρ xn = hd) (hk : hd < k) (he : e < 2 * n) (e1 : rtl fr to e = xn) (e2 : 0 < rsp cap x e) (e3 : rhd fr to e = u) (hu : u < 202) (h0 : M' 62 u = -1)
    (f1 : ∀ y, y ≠ 62 → y ≠ 64 → M5 y = M' y) (f2 : M5 62 = up1 (M' 62) u (M' 62 xn + 1)) (f3 : M5 64 = up1 (M' 64) k (u : Int)) : k < 202 ∧ cpJ M0 n fr to cap x hd (k + 1) (up1 ρ u k) M5 ∧ (xn < 202 ∧ M5 62 xn ≠ -1 ∧ up1 ρ u k xn = hd) ∧ (∀ v, M' 62 v ≠ -1 → M5 62 v ≠ -1) ∧ M5 62 u ≠ -1 := by
  obtain ⟨a1, a3, a4, a8, a5⟩ := h
  obtain ⟨x1, x2, x3⟩ := hx
  have xr := a8 xn x1 x2
  have nc : M' 62 xn + 1 ≠ -1 := by omega
  have nu : ∀ v, M' 62 v ≠ -1 → v ≠ u := fun v hv e => hv (by rw [e]; exact h0)
  obtain ⟨kl, sp'⟩ := SPg_add a3 hu h0 nc (e := e) he e3 e2 (by rw [e1]; exact x2) (by rw [e1]; exact x1) (by unfold RD; rw [up1_s, e1, up1_n _ _ (nu _ x2)]) (fun v e hv ht hr => by unfold RD at hr ⊢; rw [up1_n _ _ hv, up1_n _ _ ht]; exact hr)
  rw [← f2, ← f3] at sp'
  have mk : ∀ v, M' 62 v ≠ -1 → M5 62 v ≠ -1 := fun v hv => by rw [f2, up1_n _ _ (nu v hv)]; exact hv
  have mk2 : ∀ m v, cloG (rtl fr to) (rhd fr to) (rsp cap x) (M' 62) m v → cloG (rtl fr to) (rhd fr to) (rsp cap x) (M5 62) m v := fun m v hc e he h1 h2 => mk _ (hc e he h1 h2)
  refine ⟨kl, ⟨fun y y1 y2 => by rw [f1 y y1 y2, a1 y y1 y2], sp', by rw [f2, up1_n _ _ (nu 200 (by rw [a4]; decide))]; exact a4, fun v hv h1 => ?_, fun v hv h1 h2 => ?_⟩, ⟨x1, mk _ x2, by rw [up1_n _ _ (nu _ x2)]; exact x3⟩, mk, by rw [f2, up1_s]; exact nc⟩
  · by_cases q : v = u
    · rw [q, f2, up1_s, up1_s]
      omega
    · rw [f2, up1_n _ _ q] at h1 ⊢
      rw [up1_n _ _ q]
      exact a8 v hv h1
  · by_cases q : v = u
    · rw [q, up1_s] at h2
      omega
    · rw [up1_n _ _ q] at h2
      rw [f2, up1_n _ _ q] at h1
      exact mk2 _ _ (a5 v hv h1 h2)
set_option maxHeartbeats 4000000 in
theorem c_layByDistance {E : zE} {M : zM} {Q : Int → zM → Prop} {n : Nat} {fr to : Nat → Nat} {cap x : Nat → Int} (hN : cNet M n fr to cap x)
    (h : ∀ (M' : zM) (ρ : Nat → Nat) (k : Nat), cpJ M n fr to cap x 0 k ρ M' → clsd (2 * n) (rtl fr to) (rhd fr to) (rsp cap x) (fun v => decide (M' 62 v ≠ -1)) → Q (if M' 62 201 = -1 then 0 else 1) M') : zP E mX2_layByDistance [.inr (.inr 57)] M Q := by
  have hN0 := hN
  obtain ⟨n1, n2, n3, n4, n5⟩ := hN
  refine vcX2_layByDistance (fun m l1 l2 M' => ∃ (k hd : Nat) (ρ : Nat → Nat), l1 = (k : Int) ∧ l2 = (hd : Int) ∧ m = (203 - hd) * 2000 ∧ hd ≤ k ∧ cpJ M n fr to cap x hd k ρ M')
    (fun m l1 l2 l3 l4 l5 M' => ∃ (k hd xn i m' : Nat) (ρ : Nat → Nat), l1 = (k : Int) ∧ l2 = (hd : Int) ∧ l3 = (xn : Int) ∧ l4 = lastA (rtl fr to) m' xn ∧ l5 = (i : Int) ∧ i + m' ≤ 2 * n ∧ m = (202 - hd) * 2000 + 1 + (2 * n - i) ∧ hd < k ∧ cpJ M n fr to cap x hd k ρ M' ∧ (xn < 202 ∧ M' 62 xn ≠ -1 ∧ ρ xn = hd) ∧ (∀ e, m' ≤ e → e < 2 * n → rtl fr to e = xn → 0 < rsp cap x e → M' 62 (rhd fr to e) ≠ -1)) ?_ ?_ ?_
  · intro M1 h1 M2 h2 M3 h3
    have c1 : ∀ v, v < 202 → M1 62 v = -1 := fun v hv => by rw [h1, zfill_r, if_pos ⟨rfl, hv⟩]
    have s0 := SPg_0 (m := 2 * n) (tl := rtl fr to) (hd := rhd fr to) (sp := rsp cap x) (R := RD (rtl fr to)) (q := M1 64) (c := 0) (s := 200) (N := 202) (by omega) c1 (by decide)
    have c3 : M3 62 = up1 (M1 62) 200 0 := by rw [h3, zup_ne _ _ _ (by decide), h2, zup_a]
    have q3 : M3 64 = up1 (M1 64) 0 200 := by rw [h3, zup_a, h2, zup_ne _ _ _ (by decide)]
    rw [← c3, show (((200 : Nat) : Int)) = 200 from rfl, ← q3] at s0
    have f1 : ∀ y, y ≠ 62 → M1 y = M y := fun y hy => by funext j; rw [h1, zfill_r, if_neg (fun q => hy q.1)]
    refine ⟨_, 1, 0, fun _ => 0, rfl, rfl, rfl, by omega, fun y y1 y2 => by rw [h3, zup_ne _ _ _ y2, h2, zup_ne _ _ _ y1, f1 y y1], s0, by rw [c3, up1_s], fun v hv hC => ?_, fun v _ _ hh => by omega⟩
    rw [c3] at hC ⊢
    by_cases q : v = 200
    · rw [q, up1_s]; exact ⟨Int.le_refl _, Int.le_refl _⟩
    · rw [up1_n _ _ q] at hC
      exact absurd (c1 v hv) hC
  · rintro m l1 l2 M' ⟨k, hd, ρ, rfl, rfl, rfl, hk, hJ⟩
    have hJ0 := hJ
    obtain ⟨fr', sp, c4, cr, cl⟩ := hJ
    have kb := sp.1
    have cz : ∀ v, v < 202 → zR (M' 62 v) := fun v hv => by
      by_cases q : M' 62 v = -1
      · rw [q]; exact zRd rfl
      · have := cr v hv q
        have := (sp.2.2.2.1 v hv q).1
        unfold zR
        omega
    refine ⟨⟨by unfold zR; omega, by unfold zR; omega⟩, fun q => ?_, fun q => ⟨by omega, ?_⟩⟩
    · have fin := h M' ρ k ⟨fr', sp, c4, cr, fun v _ _ hh => by omega⟩ (fun e he h1 h2 => by
        have h1 := of_decide_eq_true h1
        have tN := (cN_tl hN0 he).1
        exact decide_eq_true (cl _ tN h1 (by have := (sp.2.2.2.1 _ tN h1).1; omega) e he rfl h2))
      refine ⟨cz _ (by omega), fun q2 => ?_, fun q2 => ?_⟩
      · rw [if_pos q2] at fin; exact fin
      · rw [if_neg q2] at fin; exact fin
    · obtain ⟨v, v1, v2, v3, v4⟩ := sp.2.2.1 hd (by omega)
      rw [Int.toNat_natCast, v1, Int.toNat_natCast]
      refine ⟨by omega, (202 - hd) * 2000 + 1 + (2 * n - 0), by omega, k, hd, v, 0, 2 * n, ρ, rfl, rfl, rfl, ?_, rfl, by omega, rfl, by omega, hJ0, ⟨v2, v3, v4⟩, fun e h1 h2 => by omega⟩
      rw [fr' _ (by decide) (by decide)]
      exact n4 v v2
  · rintro m l1 l2 l3 l4 l5 M' ⟨k, hd, xn, i, m', ρ, rfl, rfl, rfl, rfl, rfl, him, rfl, hdk, hJ, hx, hp⟩
    have hJ0 := hJ
    obtain ⟨fr', sp, c4, cr, cl⟩ := hJ
    have kb := sp.1
    have eA : M' 57 4 = ((2 * n : Nat) : Int) := by rw [fr' 57 (by decide) (by decide)]; exact n1
    have cz : ∀ v, v < 202 → zR (M' 62 v) := fun v hv => by
      by_cases q : M' 62 v = -1
      · rw [q]; exact zRd rfl
      · have := cr v hv q
        have := (sp.2.2.2.1 v hv q).1
        unfold zR
        omega
    -- all arcs of the node are seen
    have nextN : (∀ e, e < m' → rtl fr to e ≠ xn) → ∃ n', n' < (202 - hd) * 2000 + 1 + (2 * n - i) ∧ ∃ (k' hd' : Nat) (ρ : Nat → Nat), (k : Int) = (k' : Int) ∧ (hd : Int) + 1 = (hd' : Int) ∧ n' = (203 - hd') * 2000 ∧ hd' ≤ k' ∧ cpJ M n fr to cap x hd' k' ρ M' := by
      intro hno
      refine ⟨(203 - (hd + 1)) * 2000, by omega, k, hd + 1, ρ, rfl, by omega, rfl, by omega, fr', sp, c4, cr, fun v hv h1 h2 => ?_⟩
      by_cases q2 : ρ v < hd
      · exact cl v hv h1 q2
      · have : v = xn := by
          have e1 := (sp.2.2.2.1 v hv h1).2
          have e2 := (sp.2.2.2.1 xn hx.1 hx.2.1).2
          rw [hx.2.2] at e2
          rw [show ρ v = hd by omega, e2] at e1
          omega
        rw [this]
        intro e he h3 h4
        exact hp e (Nat.le_of_not_lt (fun q => hno e q h3)) he h3 h4
    rw [eA]
    rcases lastA_s (rtl fr to) m' xn with ⟨a1, a2⟩ | ⟨e, a1, a2, a3, a4⟩
    · rw [a1]
      exact ⟨⟨by unfold zR; omega, by unfold zR; omega⟩, fun _ => nextN a2, fun _ => ⟨zRd rfl, fun _ => nextN a2, fun q => absurd rfl q⟩⟩
    · rw [a1, Int.toNat_natCast]
      have e2n : e < 2 * n := by omega
      obtain ⟨t1, t2, t3⟩ := cN_tl hN0 e2n
      obtain ⟨b1, b2, b3⟩ := n3 e e2n
      have g1 : M' 60 e = (rhd fr to e : Int) := by rw [fr' _ (by decide) (by decide)]; exact b1
      have g2 : M' 61 e = rsp cap x e := by rw [fr' _ (by decide) (by decide)]; exact b2
      have g3 : ∀ M5 : zM, (∀ y, y ≠ 62 → y ≠ 64 → M5 y = M' y) → M5 59 e = lastA (rtl fr to) e xn := fun M5 f => by rw [f _ (by decide) (by decide), fr' _ (by decide) (by decide), b3, a3]
      have eb : 0 ≤ (e : Int) ∧ (e : Int) < 1088 := by omega
      have skip : (0 < rsp cap x e → M' 62 (rhd fr to e) ≠ -1) → ∃ n', n' < (202 - hd) * 2000 + 1 + (2 * n - i) ∧ ∃ (k' hd' xn' i' m'' : Nat) (ρ : Nat → Nat), (k : Int) = (k' : Int) ∧ (hd : Int) = (hd' : Int) ∧ (xn : Int) = (xn' : Int) ∧ M' 59 e = lastA (rtl fr to) m'' xn' ∧ (i : Int) + 1 = (i' : Int) ∧ i' + m'' ≤ 2 * n ∧ n' = (202 - hd') * 2000 + 1 + (2 * n - i') ∧ hd' < k' ∧ cpJ M n fr to cap x hd' k' ρ M' ∧ (xn' < 202 ∧ M' 62 xn' ≠ -1 ∧ ρ xn' = hd') ∧ (∀ e, m'' ≤ e → e < 2 * n → rtl fr to e = xn' → 0 < rsp cap x e → M' 62 (rhd fr to e) ≠ -1) := by
        intro hs
        refine ⟨(202 - hd) * 2000 + 1 + (2 * n - (i + 1)), by omega, k, hd, xn, i + 1, e, ρ, rfl, rfl, rfl, g3 M' (fun _ _ _ => rfl), by omega, by omega, rfl, hdk, hJ0, hx, fun e' h1 h2 h3 h4 => ?_⟩
        by_cases q : e' < m'
        · by_cases q2 : e' = e
          · rw [q2] at h4 ⊢; exact hs h4
          · exact absurd h3 (a4 e' (by omega) q)
        · exact hp e' (by omega) h2 h3 h4
      rw [g1, g2, Int.toNat_natCast, Int.toNat_natCast]
      refine ⟨⟨by unfold zR; omega, by unfold zR; omega⟩, fun q => by omega, fun _ => ⟨by unfold zR; omega, fun q => by omega, fun _ => ⟨eb, eb, by unfold zR; omega, fun q1 => ⟨eb, skip (fun q2 => by omega)⟩, fun q1 => ⟨by omega, cz _ t2, fun q2 => ⟨eb, skip (fun _ => q2)⟩, fun q2 => ⟨by unfold zR; omega, fun q3 => ?_, fun q3 => ⟨by omega, by omega, fun M4 h4 => ⟨by omega, fun M5 h5 => ⟨eb, ?_⟩⟩⟩⟩⟩⟩⟩⟩
      · exfalso
        have := cnt_lt t2 q2
        have := sp.2.2.2.2.1
        omega
      · have f5 : ∀ y, y ≠ 62 → y ≠ 64 → M5 y = M' y := fun y y1 y2 => by rw [h5, zup_ne _ _ _ y2, h4, zup_ne _ _ _ y1]
        rw [Int.toNat_natCast] at h5
        obtain ⟨kl, j1, j2, j3, j4⟩ := cpJ_add hJ0 hx hdk e2n a3 q1 rfl t2 q2 f5 (by rw [h5, zup_ne _ _ _ (by decide), h4, zup_a]) (by rw [h5, zup_a, h4, zup_ne _ _ _ (by decide)])
        refine ⟨(202 - hd) * 2000 + 1 + (2 * n - (i + 1)), by omega, k + 1, hd, xn, i + 1, e, _, by omega, rfl, rfl, g3 M5 f5, by omega, by omega, rfl, by omega, j1, j2, fun e' p1 p2 p3 p4 => ?_⟩
        by_cases q : e' < m'
        · by_cases q2 : e' = e
          · rw [q2]; exact j4
          · exact absurd p3 (a4 e' (by omega) q)
        · exact j3 _ (hp e' (by omega) p2 p3 p4)
theorem c_layByHours {E : zE} {M : zM} {Q : Int → zM → Prop} (h : ∀ M' : zM, (∀ y, y ≠ 62 → M' y = M y) → (∀ v, v < 202 → -1 ≤ M' 62 v ∧ M' 62 v ≤ 1000) → Q 0 M') : zP E mX2_layByHours [.inr (.inr 57)] M Q := by
  refine vcX2_layByHours (fun m l1 M' => ∃ i : Nat, l1 = (i : Int) ∧ i ≤ 200 ∧ m = 200 - i ∧ (∀ y, y ≠ 62 → M' y = M y) ∧ ∀ v, v < i → -1 ≤ M' 62 v ∧ M' 62 v ≤ 1000) ⟨200, 0, rfl, by omega, rfl, fun _ _ => rfl, fun v hv => by omega⟩ ?_
  rintro m l1 M' ⟨i, rfl, hi, rfl, fr', hv⟩
  refine ⟨by unfold zR; omega, fun q => ?_, fun q => ⟨by unfold zR; omega, by omega, fun M3 h3 => ?_⟩⟩
  · intro M1 h1 M2 h2
    refine h M2 (fun y hy => by rw [h2, zup_ne _ _ _ hy, h1, zup_ne _ _ _ hy]; exact fr' y hy) (fun v hv' => ?_)
    rw [h2, zup_a, h1, zup_a]
    by_cases q1 : v = 201
    · rw [q1, up1_s]; omega
    · rw [up1_n _ _ q1]
      by_cases q2 : v = 200
      · rw [q2, up1_s]; omega
      · rw [up1_n _ _ q2]; exact hv v (by omega)
  · refine ⟨200 - (i + 1), by omega, i + 1, by omega, by omega, rfl, fun y hy => by rw [h3, zup_ne _ _ _ hy]; exact fr' y hy, fun v hv' => ?_⟩
    rw [h3, zup_a, Int.toNat_natCast]
    by_cases q2 : v = i
    · rw [q2, up1_s, Int.tmod_eq_emod_of_nonneg (by omega)]
      omega
    · rw [up1_n _ _ q2]
      exact hv v (by omega)
/-- the most, and the side of the source of the least cut -/
def mxf (N s t n : Nat) (fr to : Nat → Nat) (cap : Nat → Int) (r : Int) (S : Nat → Bool) : Prop := ∃ x : Nat → Int, Flow N s t n fr to cap x r ∧ S s = true ∧ S t = false ∧ Shut n fr to cap x S ∧ Least N s n fr to cap x S
theorem cN_fr {M M' : zM} {n : Nat} {fr to : Nat → Nat} {cap x : Nat → Int} (h : cNet M n fr to cap x) (f : ∀ y, y ≠ 62 → y ≠ 64 → M' y = M y) : cNet M' n fr to cap x := by
  obtain ⟨b1, b2, b3, b4, b5⟩ := h
  unfold cNet
  rw [f 57 (by decide) (by decide), f 60 (by decide) (by decide), f 61 (by decide) (by decide), f 59 (by decide) (by decide), f 58 (by decide) (by decide)]
  exact ⟨b1, b2, b3, b4, b5⟩
set_option maxHeartbeats 4000000 in
theorem c_mostThrough {E : zE} {M : zM} {Q : Int → zM → Prop} {n : Nat} {fr to : Nat → Nat} {cap : Nat → Int} (hN : cNet M n fr to cap (fun _ => 0)) (hB : cutF n fr to cap (fun v => v == 200) ≤ 100000)
    (h : ∀ (M' : zM) (r : Int), (∀ y, y ≠ 61 → y ≠ 62 → y ≠ 63 → y ≠ 65 → y ≠ 64 → M' y = M y) → (0 ≤ r ∧ r ≤ 100000) → (∀ v, v < 202 → zR (M' 62 v)) → mxf 202 200 201 n fr to cap r (fun v => decide (M' 62 v ≠ -1)) → Q r M') : zP E mX2_mostThrough [.inr (.inr 57)] M Q := by
  have hF0 : Flow 202 200 201 n fr to cap (fun _ => 0) 0 := flow_0 (fun a ha => by have := hN.2.2.2.2 a ha; exact ⟨by omega, this.1, this.2.1⟩)
  have bd : ∀ (x : Nat → Int) (r : Int), Flow 202 200 201 n fr to cap x r → r ≤ 100000 := fun x r hF => by
    have := (flow_le hF (by decide) (S := fun v => v == 200) rfl rfl).1
    omega
  refine vcX2_mostThrough (fun c l1 l2 M' => ∃ (x : Nat → Int) (rd : Nat), l2 = (rd : Int) ∧ (rd : Int) ≤ l1 ∧ c = (100001 - l1).toNat ∧ (∀ y, y ≠ 61 → y ≠ 62 → y ≠ 63 → y ≠ 65 → y ≠ 64 → M' y = M y) ∧ cNet M' n fr to cap x ∧ Flow 202 200 201 n fr to cap x l1) ?_ ?_
  · refine c_layByHours (fun M1 f1 d1 => ?_)
    refine c_pushRound (cN_fr hN (fun y y1 _ => f1 y y1)) hF0 d1 ?_
    intro M2 r x2 r0 f2 n2 w2 _
    rw [Int.zero_add] at w2
    exact ⟨_, x2, 0, rfl, by omega, rfl, fun y y1 y2 y3 y4 y5 => by rw [f2 y y1 y2 y3 y4, f1 y y2], n2, w2⟩
  · rintro c l1 l2 M' ⟨x, rd, rfl, hrd, rfl, fr', hn, hF⟩
    have b := bd x l1 hF
    refine ⟨by unfold zR; omega, fun q => by omega, fun _ => ?_⟩
    refine c_layByDistance hn ?_
    intro M1 ρ k hJ hcl
    obtain ⟨f1, sp, c0, cr, -⟩ := hJ
    have hb : ∀ a, a < n → 0 ≤ x a ∧ x a ≤ cap a := fun a ha => (hF.1 a ha).1
    have dr : ∀ v, v < 202 → -1 ≤ M1 62 v ∧ M1 62 v ≤ 201 := fun v hv => by
      by_cases q : M1 62 v = -1
      · omega
      · have := cr v hv q
        have := (sp.2.2.2.1 v hv q).1
        have := sp.1
        omega
    refine ⟨by split <;> exact zRd rfl, fun q => ?_, fun q => ?_⟩
    · have q : M1 62 201 = -1 := by
        by_cases q2 : M1 62 201 = -1
        · exact q2
        · rw [if_neg q2] at q; cases q
      refine h M1 l1 (fun y y1 y2 y3 y4 y5 => by rw [f1 y y2 y5]; exact fr' y y1 y2 y3 y4 y5) ⟨by omega, b⟩ (fun v hv => by have := dr v hv; unfold zR; omega) ⟨x, hF, decide_eq_true (by rw [c0]; decide), decide_eq_false (fun q2 => q2 q), (shut_clsd hb).mpr hcl, ?_⟩
      intro T T0 hT v hv hS
      exact SPg_least sp T T0 ((shut_clsd hb).mp hT) v hv (of_decide_eq_true hS)
    · have q : M1 62 201 ≠ -1 := fun q2 => q (by rw [if_pos q2])
      refine c_pushRound (cN_fr hn f1) hF (fun v hv => by have := dr v hv; omega) ?_
      intro M2 r x2 r0 f2 n2 w2 hp
      have r1 := hp ⟨c0, q, fun v hv => (dr v hv).2, fun v v1 v2 v3 => by
        obtain ⟨e, e1, e2, e3, e4, e5, e6, e7⟩ := sp.2.2.2.2.2 v v1 v2 v3
        exact ⟨e, e1, e2, e3, e5, (cr _ e5 e4).1, e7⟩⟩
      have b2 := bd _ _ w2
      exact ⟨(100001 - (l1 + r)).toNat, by omega, x2, rd + 1, by omega, by omega, rfl, fun y y1 y2 y3 y4 y5 => by rw [f2 y y1 y2 y3 y4, f1 y y2 y5]; exact fr' y y1 y2 y3 y4 y5, n2, w2⟩
