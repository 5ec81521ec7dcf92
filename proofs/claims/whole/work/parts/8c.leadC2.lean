/-! the class leads people out: roads, and all of it -/
theorem fLJ_8 {f : Nat} {M M' : zM} (hf : zIs_0 (f : Int)) (h : ∀ x j, dJ x j = false → M' x j = M x j) : M' (f + 8) = M (f + 8) ∧ (∀ j, M' f j = M f j) := by
  have ff := fid4 hf
  refine ⟨funext fun j => h _ j ?_, fun j => h _ j ?_⟩
  · rcases ff with e | e | e | e <;> rw [e] <;> rfl
  · rcases ff with e | e | e | e <;> rw [e] <;> rfl
set_option maxHeartbeats 4000000 in
theorem c_joinByRoad {E : zE} {M M' : zM} {Q : Int → zM → Prop} {sc wf : Nat → Int} {f w r : Nat} {L : Arcs} (hb : lcOk M sc wf f w) (fl : fL f M M') (hr : (r : Int) < M 102 76) (ho : ∀ p : Nat, (p : Int) < M 102 69 → M' (f + 8) p = tillP M sc w p) (hL : cL M' L) (hl : L.length ≤ 520)
    (h : ∀ M2 : zM, (∀ x j, dJ x j = false → M2 x j = M' x j) → cL M2 (L ++ rdA M sc w r (fns M w - bgn M w).toNat) → Q 0 M2) : zP E mX0_joinByRoad [.inr (.inr (f : Int)), .inr (.inr (wid w : Int)), .inr (.inr 44), .inr (.inr 57), .inl (r : Int)] M' Q := by
  have hb0 := hb
  obtain ⟨nt, ⟨p1, p2, p3, p4⟩, ⟨r1, r2, r3⟩, w3, ws, rc, wh, hf, wt⟩ := hb
  have ff := fid4 hf
  obtain ⟨b1, b2, b3, b4⟩ := bf_r nt.2.2.1
  obtain ⟨d1, d2, d3, d4, d5, d6, c1, c2, c3, c4, c5, c6, c7⟩ := r3 r hr
  obtain ⟨a, ea⟩ : ∃ a : Nat, M 148 r = (a : Int) := ⟨(M 148 r).toNat, by omega⟩
  obtain ⟨b, eb⟩ : ∃ b : Nat, M 149 r = (b : Int) := ⟨(M 149 r).toNat, by omega⟩
  obtain ⟨n, en⟩ : ∃ n : Nat, M 150 r = (n : Int) := ⟨(M 150 r).toNat, by omega⟩
  have ta := nt_till (p := a) nt (by omega)
  have tb := nt_till (p := b) nt (by omega)
  have ew : M' (wid w) = M (wid w) := fL_get fl hf (wid3 w3).2
  obtain ⟨D, hD⟩ : ∃ D : Nat, (fns M w - bgn M w).toNat = D := ⟨_, rfl⟩
  rw [hD] at b2 b3 h
  have e8 : ((f : Int) + 8).toNat = f + 8 := by omega
  have sr := nt.2.2.1
  have fd : M 132 w + 12 = fns M w := rfl
  have bd : (if M 132 w < 12 then 0 else M 132 w - 12) = bgn M w := rfl
  have g51 : M' 51 r = (a : Int) := by rw [fL_get fl hf (y := 51) rfl, d1, ea]
  have g52 : M' 52 r = (b : Int) := by rw [fL_get fl hf (y := 52) rfl, d2, eb]
  have g53 : M' 53 r = (n : Int) := by rw [fL_get fl hf (y := 53) rfl, d3, en]
  have g56 : M' 56 r = M 153 r := by rw [fL_get fl hf (y := 56) rfl, d6]
  have e3 : M' (f + 3) = M (f + 3) := fl.1 _ (by omega) (by omega) (by omega) (by omega) (by omega) (by omega) (by omega) (by omega) (by omega) (by omega) (by omega) (by omega)
  have tcv : tillC M sc w (M 153 r) = (if M 153 r = -1 then M 132 w + 12 else M 132 w + M' (f + 3) (M 153 r).toNat - 1) := by
    unfold tillC
    by_cases q : M 153 r = -1
    · rw [if_pos q, if_pos q]
    · rw [if_neg q, if_neg q, e3, (rc (M 153 r).toNat (by omega)).1]
  have tcr : M 132 w ≤ tillC M sc w (M 153 r) ∧ tillC M sc w (M 153 r) ≤ fns M w := by
    unfold tillC
    by_cases q : M 153 r = -1
    · rw [if_pos q]; omega
    · rw [if_neg q]
      have := (rc (M 153 r).toNat (by omega)).2
      omega
  have uo : ∀ h0 : Int, rdOn M sc w r h0 ↔ (Int.tmod h0 (M 152 r) = 0 ∧ h0 ≤ tillP M sc w a ∧ h0 + n ≤ tillP M sc w b ∧ h0 + n ≤ tillC M sc w (M 153 r)) := fun h0 => by
    unfold rdOn
    rw [ea, eb, en, Int.toNat_natCast, Int.toNat_natCast]
  obtain ⟨lv, hlv⟩ : ∃ lv : Int, lv = (if ((if tillP M sc w b < tillC M sc w (M 153 r) then tillP M sc w b else tillC M sc w (M 153 r)) - n) < tillP M sc w a then ((if tillP M sc w b < tillC M sc w (M 153 r) then tillP M sc w b else tillC M sc w (M 153 r)) - n) else tillP M sc w a) := ⟨_, rfl⟩
  have lvs : ∀ h0 : Int, h0 ≤ lv ↔ (h0 ≤ tillP M sc w a ∧ h0 + n ≤ tillP M sc w b ∧ h0 + n ≤ tillC M sc w (M 153 r)) := fun h0 => by
    rw [hlv]
    split <;> split <;> omega
  have lvz : -10 ≤ lv ∧ lv ≤ fns M w - n := by
    have := lvs lv
    have := lvs (-10)
    omega
  have rl : 0 ≤ (r : Int) ∧ (r : Int) < 14 := by omega
  refine vcX0_joinByRoad _ _ _ hf (wid3 w3).1 (fun m l4 l5 l6 l7 l8 l10 l11 M2 => l4 = (r : Int) ∧ l5 = bgn M w ∧ l6 = (n : Int) ∧ l7 = (a : Int) ∧ l8 = (b : Int) ∧ l10 = lv ∧ ∃ i : Nat, l11 = bgn M w + i ∧ i ≤ D ∧ m = 100 - i ∧ (∀ x j, dJ x j = false → M2 x j = M' x j) ∧ cL M2 (L ++ rdA M sc w r i)) ?_ ?_
  · refine c_firstHour (s := M 132 w) w3 (by rw [ew]; exact ws) sr ?_
    rw [bd, Int.toNat_natCast, g51, g52, g53, g56, e8, Int.toNat_natCast, Int.toNat_natCast]
    refine ⟨rl, rl, rl, rl, ?_⟩
    refine c_openTill (s := M 132 w) hf w3 (by rw [ew]; exact ws) sr ?_ ?_
    · rcases c7 with q | q
      · exact Or.inl q
      · refine Or.inr ⟨by omega, ?_⟩
        rw [e3, (rc (M 153 r).toNat (by omega)).1]
        exact (rc (M 153 r).toNat (by omega)).2
    · rw [← tcv, ho a (by omega), ho b (by omega)]
      refine ⟨by omega, ⟨by unfold zR; omega, by unfold zR; omega⟩, by omega, ⟨by unfold zR; omega, ?_⟩, 100, rfl, rfl, rfl, rfl, rfl, hlv.symm, 0, (Int.add_zero _).symm, by omega, rfl, fun _ _ _ => rfl, by show cL M' (L ++ []); rw [List.append_nil]; exact hL⟩
      unfold zR
      split <;> omega
  · rintro m l4 l5 l6 l7 l8 l10 l11 M2 ⟨rfl, rfl, rfl, rfl, rfl, rfl, i, rfl, hi, rfl, f2, hL2⟩
    have fl2 : fL f M M2 := fL_t fl (fL_J hf f2)
    have ll := rdA_len M sc w r i
    have g55 : M2 55 r = M 152 r := by rw [fL_get fl2 hf (y := 55) rfl, d5]
    have g54 : M2 54 r = M 151 r := by rw [fL_get fl2 hf (y := 54) rfl, d4]
    refine ⟨⟨by unfold zR; omega, by unfold zR; omega⟩, fun q => ?_, fun q => ?_⟩
    · have : rdA M sc w r D = rdA M sc w r i := by
        rw [show D = i + (D - i) by omega, rdA_end (fun j hj => by
          rw [uo]
          intro q2
          have := (lvs (bgn M w + j)).mpr q2.2
          omega)]
      rw [this] at h
      exact h M2 f2 hL2
    · have on := (lvs _).mp q
      have uoi := uo (bgn M w + i)
      refine vcX3_leavesIn _ _ ?_
      rw [Int.toNat_natCast, g55]
      have tm : 0 ≤ Int.tmod (bgn M w + i) (M 152 r) ∧ Int.tmod (bgn M w + i) (M 152 r) < 6 := by
        rw [Int.tmod_eq_emod_of_nonneg (by omega)]
        have := Int.emod_nonneg (bgn M w + i) (b := M 152 r) (by omega)
        have := Int.emod_lt_of_pos (bgn M w + i) (b := M 152 r) (by omega)
        omega
      generalize Int.tmod (bgn M w + i) (M 152 r) = tmv at *
      refine ⟨rl, by unfold zR; omega, fun q2 => by omega, fun _ => ⟨⟨by unfold zR; omega, by unfold zR; omega, by omega⟩, by unfold zR; omega, fun q2 => ⟨zRd rfl, fun _ => ?_, fun q3 => absurd rfl q3⟩, fun q2 => ⟨zRd rfl, fun q3 => absurd q3 (by decide), fun _ => ?_⟩⟩⟩
      · refine ⟨100 - (i + 1), by omega, rfl, rfl, rfl, rfl, rfl, rfl, i + 1, by omega, by omega, rfl, f2, ?_⟩
        have un : rdA M sc w r (i + 1) = rdA M sc w r i := by
          show _ ++ (if rdOn M sc w r (bgn M w + i) then _ else []) = _
          rw [if_neg (fun q3 => q2 (uoi.mp q3).1), List.append_nil]
        rw [un]
        exact hL2
      · refine vcX2_node _ _ ?_
        refine vcX2_node _ _ ⟨rl, ?_⟩
        rw [g54]
        have n1 := cn_lt (v := 25 * a + i) (Or.inl (by omega))
        have n2 := cn_lt (v := 25 * b + i + n) (Or.inl (by omega))
        refine c_joinN (a := 25 * a + i) (b := 25 * b + i + n) hL2 (by rw [List.length_append]; omega) n1.1 n2.1 (by rw [n1.2.1 (by omega)]; omega) (by rw [n2.2.1 (by omega)]; omega) ?_
        intro M5 f5 h5
        refine ⟨100 - (i + 1), by omega, rfl, rfl, rfl, rfl, rfl, rfl, i + 1, by omega, by omega, rfl, fr_t f2 f5, ?_⟩
        have un : rdA M sc w r (i + 1) = rdA M sc w r i ++ [(25 * a + i, 25 * b + i + n, M 151 r)] := by
          show _ ++ (if rdOn M sc w r (bgn M w + i) then [(25 * (M 148 r).toNat + i, 25 * (M 149 r).toNat + i + (M 150 r).toNat, M 151 r)] else []) = _
          rw [if_pos (uoi.mpr ⟨q2, on⟩), ea, eb, en, Int.toNat_natCast, Int.toNat_natCast, Int.toNat_natCast]
        rw [un, ← List.append_assoc]
        exact h5
theorem cut_cn {L : Arcs} (ho : ∀ t, t ∈ L → arcOk t) : cutF L.length (cf L) (ct L) (aCp L) (fun v => v == 200) = cutF L.length (aFr L) (aTo L) (aCp L) (fun v => v == 400) := by
  unfold cutF
  refine sm_congr (fun a ha => ?_)
  obtain ⟨c1, c2, c3⟩ := ho _ (a_get L ha).2
  simp only at c1 c2
  have k : ∀ v, (v < 200 ∨ v = 400 ∨ v = 401) → (cn v == 200) = (v == 400) := fun v hv => by
    have := cn_lt hv
    rw [Bool.eq_iff_iff, beq_iff_eq, beq_iff_eq]
    omega
  show (if (cn (aFr L a) == 200) = true ∧ (cn (aTo L a) == 200) = false then aCp L a else 0) = _
  rw [k _ (by omega), k _ (by omega)]
set_option maxHeartbeats 8000000 in
theorem c_leadOut {E : zE} {M : zM} {Q : Int → zM → Prop} {sc wf : Nat → Int} {f w : Nat} (hb : lcOk M sc wf f w)
    (h : ∀ (M' : zM) (r : Int) (S : Nat → Bool), fL f M M' → M' f 8 = styF M sc wf w (M 102 69).toNat + r → (0 ≤ r ∧ styF M sc wf w (M 102 69).toNat + r ≤ ap M (M 102 69).toNat) → M' f 10 = 1 → mxf 202 200 201 (netL M sc wf w).length (cf (netL M sc wf w)) (ct (netL M sc wf w)) (aCp (netL M sc wf w)) r S → (∀ v, v < 202 → M' (f + 7) v = if S v = true then 1 else 0) → Q 0 M') : zP E mX0_leadOut [.inr (.inr (f : Int)), .inr (.inr (wid w : Int)), .inr (.inr 44), .inr (.inr 57)] M Q := by
  have hb0 := hb
  obtain ⟨nt, ⟨p1, p2, p3, p4⟩, ⟨r1, r2, r3⟩, w3, ws, rc, wh, hf, wt⟩ := hb
  have ff := fid4 hf
  obtain ⟨cs1, cs2⟩ := cut_src (wf := wf) nt
  obtain ⟨no, nl⟩ := netL_ok (wf := wf) nt
  have sr := nt.2.2.1
  obtain ⟨P, hP⟩ : ∃ P : Nat, M 102 69 = (P : Int) := ⟨(M 102 69).toNat, by omega⟩
  obtain ⟨R, hR⟩ : ∃ R : Nat, M 102 76 = (R : Int) := ⟨(M 102 76).toNat, by omega⟩
  rw [hP, Int.toNat_natCast] at h cs1 cs2
  have hN : netL M sc wf w = plsA M sc wf w P ++ rdsA M sc w R := by unfold netL; rw [hP, hR, Int.toNat_natCast, Int.toNat_natCast]
  have e0 : (f : Int).toNat = f := Int.toNat_natCast f
  have e7 : ((f : Int) + 7).toNat = f + 7 := by omega
  have e8 : ((f : Int) + 8).toNat = f + 8 := by omega
  refine vcX0_leadOut _ _ hf (wid3 w3).1
    (fun m l4 M' => ∃ p : Nat, l4 = (p : Int) ∧ p ≤ P ∧ m = 1000 - p ∧ fL f M M' ∧ (∀ a : Nat, a < p → M' (f + 8) a = tillP M sc w a) ∧ M' f 8 = styF M sc wf w p ∧ cL M' (plsA M sc wf w p))
    (fun m l4 M' => ∃ r : Nat, l4 = (r : Int) ∧ r ≤ R ∧ m = 900 - r ∧ fL f M M' ∧ (∀ a : Nat, (a : Int) < M 102 69 → M' (f + 8) a = tillP M sc w a) ∧ M' f 8 = styF M sc wf w P ∧ cL M' (plsA M sc wf w P ++ rdsA M sc w r))
    (fun m l4 M' => ∃ (v : Nat) (r : Int) (S : Nat → Bool), l4 = (v : Int) ∧ v ≤ 202 ∧ m = 500 - v ∧ fL f M M' ∧ M' f 8 = styF M sc wf w P + r ∧ (0 ≤ r ∧ r ≤ 100000) ∧ mxf 202 200 201 (netL M sc wf w).length (cf (netL M sc wf w)) (ct (netL M sc wf w)) (aCp (netL M sc wf w)) r S ∧ (∀ u, u < 202 → zR (M' 62 u) ∧ (S u = true ↔ M' 62 u ≠ -1)) ∧ (∀ u, u < v → M' (f + 7) u = if S u = true then 1 else 0)) ?_ ?_ ?_ ?_
  · refine vcX2_clear ?_
    intro M1 h1 M2 h2 M3 h3
    rw [e0] at h3
    have f3 : ∀ y, y ≠ 57 → y ≠ 58 → y ≠ f → M3 y = M y := fun y y1 y2 y3 => by
      rw [h3, zup_ne _ _ _ y3, h2, zfill_ne _ y2, h1, zup_ne _ _ _ y1]
    refine ⟨1000 - 0, 0, rfl, by omega, rfl, ⟨fun x a1 a2 a3 a4 a5 a6 a7 a8 a9 a10 a11 a12 => f3 x a9 a1 a10, fun j hj => ?_, fun j j1 j2 => ?_⟩, fun a ha => by omega, ?_, ?_⟩
    · rw [h3, zup_ne _ _ _ (by omega), h2, zfill_ne _ (by decide), h1, zup_a, up1_n _ _ hj]
    · rw [h3, zup_a, up1_n _ _ j1, h2, zfill_ne _ (by omega), h1, zup_ne _ _ _ (by omega)]
    · rw [h3, zup_a, up1_s]
      rfl
    · refine cL_0 ?_ (fun v hv => ?_)
      · rw [h3, zup_ne _ _ _ (by omega), h2, zfill_ne _ (by decide), h1, zup_a, up1_s]
      · rw [h3, zup_ne _ _ _ (by omega), h2, zfill_r, if_pos ⟨rfl, hv⟩]
  · rintro m l4 M' ⟨p, rfl, hp, rfl, fl, ho, hS, hL⟩
    have ep : M' 44 6 = (P : Int) := by rw [fL_get fl hf (y := 44) rfl, p1, hP]
    have ew : M' (wid w) = M (wid w) := fL_get fl hf (wid3 w3).2
    have ll := plsA_len (sc := sc) (wf := wf) sr p
    rw [ep]
    refine ⟨⟨by unfold zR; omega, by unfold zR; omega⟩, fun q => ?_, fun q => ⟨by omega, ?_⟩⟩
    · have : p = P := by omega
      subst this
      exact ⟨900 - 0, by omega, 0, rfl, by omega, rfl, fl, fun a ha => ho a (by omega), hS, by show cL M' (plsA M sc wf w p ++ []); rw [List.append_nil]; exact hL⟩
    · have pp : (p : Int) < M 102 69 := by omega
      have e3 : M' (f + 3) = M (f + 3) := fl.1 _ (by omega) (by omega) (by omega) (by omega) (by omega) (by omega) (by omega) (by omega) (by omega) (by omega) (by omega) (by omega)
      have ec : M' 45 = M 45 := fL_get fl hf rfl
      rw [Int.toNat_natCast, ec]
      have cellv : (M 45 p = -1 ∨ ((0 ≤ M 45 p ∧ M 45 p < 64) ∧ (1 ≤ M' (f + 3) (M 45 p).toNat ∧ M' (f + 3) (M 45 p).toNat ≤ 13))) ∧ (if M 45 p = -1 then M 132 w + 12 else M 132 w + M' (f + 3) (M 45 p).toNat - 1) = tillP M sc w p := by
        unfold tillP
        rcases p3 p pp with ⟨a1, a2, a3, a4, a5, a6, a7, -⟩ | ⟨a1, a2, -⟩
        · obtain ⟨c1, c2⟩ := rc (M 143 p).toNat (by omega)
          rw [a2, e3, c1, if_neg (by omega), if_neg (by omega)]
          exact ⟨Or.inr ⟨by omega, c2⟩, rfl⟩
        · rw [a2, if_pos rfl, if_pos a1]
          exact ⟨Or.inl rfl, rfl⟩
      refine c_openTill (s := M 132 w) hf w3 (by rw [ew]; exact ws) sr cellv.1 ⟨by omega, fun M6 h6 => ?_⟩
      rw [cellv.2, e8] at h6
      have fl6 : fL f M M6 := fL_t fl ⟨fun x _ _ _ _ _ _ _ _ _ _ _ x8 => by rw [h6, zup_ne _ _ _ x8], fun j hj => by rw [h6, zup_ne _ _ _ (by omega)], fun j j1 j2 => by rw [h6, zup_ne _ _ _ (by omega)]⟩
      have o6 : ∀ a, a < p + 1 → M6 (f + 8) a = tillP M sc w a := fun a ha => by
        rw [h6, zup_a]
        by_cases q2 : a = p
        · rw [q2, up1_s]
        · rw [up1_n _ _ q2]; exact ho a (by omega)
      have s6 : M6 f 8 = styF M sc wf w p := by rw [h6, zup_ne _ _ _ (by omega)]; exact hS
      have L6 : cL M6 (plsA M sc wf w p) := cL_fr (fun y hy => by rw [h6, zup_ne _ _ _ (by omega)]) (by rw [h6, zup_ne _ _ _ (by omega)]) hL
      refine c_joinHours hb0 fl6 pp (o6 p (by omega)) L6 (by omega) ?_
      intro M7 f7 L7
      have fl7 := fL_t fl6 (fL_J hf f7)
      obtain ⟨g8, gs⟩ := fLJ_8 hf f7
      have l7 : (plsA M sc wf w p ++ (hrA p (bgn M w) (tillP M sc w p) (fns M w - bgn M w).toNat ++ skA M sc w p)).length ≤ 230 := by
        have := plA_len (sc := sc) (wf := wf) sr p
        unfold plA at this
        rw [List.length_append] at this
        rw [List.length_append]
        omega
      have us : styF M sc wf w (p + 1) = styF M sc wf w p + (if M 142 p = 1 ∧ (wf p = -1 ∨ fns M w < wf p) ∧ tillP M sc w p = fns M w then M 144 p else 0) := rfl
      have ul : plsA M sc wf w (p + 1) = plsA M sc wf w p ++ (hrA p (bgn M w) (tillP M sc w p) (fns M w - bgn M w).toNat ++ skA M sc w p) ++ brA M sc wf w p := by
        show _ ++ plA M sc wf w p = _
        unfold plA
        rw [← List.append_assoc]
      refine lc_town hb0 fl7 pp ?_
      by_cases q2 : M 142 p = 1
      · rw [if_pos q2]
        refine ⟨zRd rfl, fun q3 => absurd q3 (by decide), fun _ => ?_⟩
        refine c_bringPeople (st := styF M sc wf w p) hb0 fl7 pp q2 (by rw [g8]; exact o6 p (by omega)) (by rw [gs]; exact s6) L7 l7 ?_
        intro M8 fl8 o8 s8 L8
        refine ⟨1000 - (p + 1), by omega, p + 1, by omega, by omega, rfl, fL_t fl7 fl8, fun a ha => by rw [o8, g8]; exact o6 a ha, by rw [us]; exact s8, by rw [ul]; exact L8⟩
      · rw [if_neg q2]
        refine ⟨zRd rfl, fun _ => ?_, fun q3 => absurd rfl q3⟩
        refine ⟨1000 - (p + 1), by omega, p + 1, by omega, by omega, rfl, fl7, fun a ha => by rw [g8]; exact o6 a ha, ?_, ?_⟩
        · rw [us, if_neg (fun q3 => q2 q3.1), gs, s6]
          omega
        · have : brA M sc wf w p = [] := by
            unfold brA
            rw [if_neg (fun q3 => q2 q3.1)]
          rw [ul, this, List.append_nil]
          exact L7
  · rintro m l4 M' ⟨r, rfl, hr, rfl, fl, ho, hS, hL⟩
    have ep : M' 44 13 = (R : Int) := by rw [fL_get fl hf (y := 44) rfl, r1, hR]
    have ll1 := plsA_len (sc := sc) (wf := wf) sr P
    have ll2 := rdsA_len (sc := sc) sr r
    rw [ep]
    refine ⟨⟨by unfold zR; omega, by unfold zR; omega⟩, fun q => ?_, fun q => ?_⟩
    · have : r = R := by omega
      subst this
      rw [← hN] at hL
      refine c_mostThrough (cL_net hL nl no) (by
        rw [cut_cn no]
        have : ap M P ≤ 1000 * P := by
          have key : ∀ p : Nat, p ≤ P → ap M p ≤ 1000 * p := by
            intro p hp
            induction p with
            | zero => exact Int.le_refl _
            | succ p ih =>
              have ih := ih (by omega)
              show ap M p + (if M 142 p = 0 then 0 else M 144 p) ≤ _
              have c := nt.2.2.2.1 p (by omega)
              split <;> omega
          exact key P (Nat.le_refl _)
        omega) ?_
      intro M9 r9 f9 rr d9 mx9
      intro M15 h15
      rw [e0] at h15
      have fl9 : fL f M M9 := fL_t fl ⟨fun x a1 a2 a3 a4 a5 a6 a7 a8 a9 _ _ _ => f9 x a4 a5 a6 a8 a7, fun j hj => by rw [f9 57 (by decide) (by decide) (by decide) (by decide) (by decide)], fun j _ _ => by rw [f9 f (by omega) (by omega) (by omega) (by omega) (by omega)]⟩
      refine ⟨500 - 0, by omega, 0, r9, _, rfl, by omega, rfl, fL_t fl9 ⟨fun x _ _ _ _ _ _ _ _ _ x0 _ _ => by rw [h15, zup_ne _ _ _ x0], fun j hj => by rw [h15, zup_ne _ _ _ (by omega)], fun j j1 j2 => by rw [h15, zup_a, up1_n _ _ j1]⟩, ?_, rr, mx9, fun u hu => ?_, fun u hu => by omega⟩
      · rw [h15, zup_a, up1_s, hS]
      · rw [h15, zup_ne _ _ _ (by omega)]
        exact ⟨d9 u hu, ⟨fun q2 => of_decide_eq_true q2, fun q2 => decide_eq_true q2⟩⟩
    · refine c_joinByRoad hb0 fl (by omega) ho hL (by rw [List.length_append]; omega) ?_
      intro M7 f7 L7
      obtain ⟨g8, gs⟩ := fLJ_8 hf f7
      refine ⟨900 - (r + 1), by omega, r + 1, by omega, by omega, rfl, fL_t fl (fL_J hf f7), fun a ha => by rw [g8]; exact ho a ha, by rw [gs]; exact hS, ?_⟩
      show cL M7 (plsA M sc wf w P ++ (rdsA M sc w r ++ rdA M sc w r (fns M w - bgn M w).toNat))
      rw [← List.append_assoc]
      exact L7
  · rintro m l4 M' ⟨v, r, S, rfl, hv, rfl, fl, hS, rr, mx, hd, hc⟩
    have bd : r ≤ cutF (netL M sc wf w).length (cf (netL M sc wf w)) (ct (netL M sc wf w)) (aCp (netL M sc wf w)) (fun v => v == 200) := by
      obtain ⟨x, hF, -⟩ := mx
      exact (flow_le hF (by decide) (S := fun v => v == 200) rfl rfl).1
    rw [cut_cn no] at bd
    refine ⟨by unfold zR; omega, fun q => ?_, fun q => ?_⟩
    · intro M18 h18
      rw [e0] at h18
      have v2 : v = 202 := by omega
      subst v2
      refine h M18 r S (fL_t fl ⟨fun x _ _ _ _ _ _ _ _ _ x0 _ _ => by rw [h18, zup_ne _ _ _ x0], fun j hj => by rw [h18, zup_ne _ _ _ (by omega)], fun j j1 j2 => by rw [h18, zup_a, up1_n _ _ j2]⟩) (by rw [h18, zup_a, up1_n _ _ (by decide)]; exact hS) ⟨rr.1, by omega⟩ (by rw [h18, zup_a, up1_s]) mx (fun u hu => by rw [h18, zup_ne _ _ _ (by omega)]; exact hc u hu)
    · obtain ⟨d1, d2⟩ := hd v (by omega)
      have step : ∀ (x : Int) (M21 : zM), x = (if S v = true then 1 else 0) → M21 = zup M' (f + 7) v x → ∃ n', n' < 500 - v ∧ ∃ (v' : Nat) (r : Int) (S : Nat → Bool), (v : Int) + 1 = (v' : Int) ∧ v' ≤ 202 ∧ n' = 500 - v' ∧ fL f M M21 ∧ M21 f 8 = styF M sc wf w P + r ∧ (0 ≤ r ∧ r ≤ 100000) ∧ mxf 202 200 201 (netL M sc wf w).length (cf (netL M sc wf w)) (ct (netL M sc wf w)) (aCp (netL M sc wf w)) r S ∧ (∀ u, u < 202 → zR (M21 62 u) ∧ (S u = true ↔ M21 62 u ≠ -1)) ∧ (∀ u, u < v' → M21 (f + 7) u = if S u = true then 1 else 0) := by
        intro x M21 hx h21
        refine ⟨500 - (v + 1), by omega, v + 1, r, S, by omega, by omega, rfl, fL_t fl ⟨fun y _ _ _ _ _ _ _ _ _ _ y7 _ => by rw [h21, zup_ne _ _ _ y7], fun j hj => by rw [h21, zup_ne _ _ _ (by omega)], fun j j1 j2 => by rw [h21, zup_ne _ _ _ (by omega)]⟩, by rw [h21, zup_ne _ _ _ (by omega)]; exact hS, rr, mx, fun u hu => by rw [h21, zup_ne _ _ _ (by omega)]; exact hd u hu, fun u hu => ?_⟩
        rw [h21, zup_a]
        by_cases q2 : u = v
        · rw [q2, up1_s]; exact hx
        · rw [up1_n _ _ q2]; exact hc u (by omega)
      refine vcX2_isReached _ ?_
      rw [Int.toNat_natCast, e7]
      refine ⟨by omega, d1, fun q2 => ⟨zRd rfl, fun _ => ⟨by omega, fun M21 h21 => step 0 M21 ?_ h21⟩, fun q3 => absurd rfl q3⟩, fun q2 => ⟨zRd rfl, fun q3 => absurd q3 (by decide), fun _ => ⟨by omega, fun M21 h21 => step 1 M21 ?_ h21⟩⟩⟩
      · rw [if_neg (fun q3 => d2.mp q3 q2)]
      · rw [if_pos (d2.mpr q2)]
