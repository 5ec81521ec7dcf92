/-! the class leads people out -/
def fL (f : Nat) (M M' : zM) : Prop := (∀ x, x ≠ 58 → x ≠ 59 → x ≠ 60 → x ≠ 61 → x ≠ 62 → x ≠ 63 → x ≠ 64 → x ≠ 65 → x ≠ 57 → x ≠ f → x ≠ f + 7 → x ≠ f + 8 → M' x = M x) ∧ (∀ j, j ≠ 4 → M' 57 j = M 57 j) ∧ (∀ j, j ≠ 8 → j ≠ 10 → M' f j = M f j)
def nb (y : Nat) : Bool := ! [58, 59, 60, 61, 62, 63, 64, 65, 57, 35, 70, 80, 90, 42, 43, 77, 78, 87, 88, 97, 98].contains y
theorem fid4 {f : Nat} (hf : zIs_0 (f : Int)) : f = 35 ∨ f = 70 ∨ f = 80 ∨ f = 90 := by unfold zIs_0 at hf; omega
theorem fL_get {f : Nat} {M M' : zM} (h : fL f M M') (hf : zIs_0 (f : Int)) {y : Nat} (hy : nb y = true) : M' y = M y := by
  have ff := fid4 hf
  have k : ∀ z, nb z = false → y ≠ z := fun z hz e => by rw [e, hz] at hy; cases hy
  refine h.1 y (k _ rfl) (k _ rfl) (k _ rfl) (k _ rfl) (k _ rfl) (k _ rfl) (k _ rfl) (k _ rfl) (k _ rfl) ?_ ?_ ?_
  · rcases ff with e | e | e | e <;> rw [e] <;> exact k _ rfl
  · rcases ff with e | e | e | e <;> rw [e] <;> exact k _ rfl
  · rcases ff with e | e | e | e <;> rw [e] <;> exact k _ rfl
theorem fL_r (f : Nat) (M : zM) : fL f M M := ⟨fun _ _ _ _ _ _ _ _ _ _ _ _ _ => rfl, fun _ _ => rfl, fun _ _ _ => rfl⟩
theorem fL_t {f : Nat} {M M' M2 : zM} (h : fL f M M') (h2 : fL f M' M2) : fL f M M2 := ⟨fun x a1 a2 a3 a4 a5 a6 a7 a8 a9 a10 a11 a12 => by rw [h2.1 x a1 a2 a3 a4 a5 a6 a7 a8 a9 a10 a11 a12, h.1 x a1 a2 a3 a4 a5 a6 a7 a8 a9 a10 a11 a12], fun j hj => by rw [h2.2.1 j hj, h.2.1 j hj], fun j j1 j2 => by rw [h2.2.2 j j1 j2, h.2.2 j j1 j2]⟩
theorem fL_J {f : Nat} {M M' : zM} (hf : zIs_0 (f : Int)) (h : ∀ x j, dJ x j = false → M' x j = M x j) : fL f M M' := by
  have ff := fid4 hf
  have k : ∀ x, x ≠ 58 → x ≠ 59 → x ≠ 60 → x ≠ 61 → x ≠ 57 → ∀ j, dJ x j = false := by
    intro x a1 a2 a3 a4 a9 j
    unfold dJ
    have b : (x == 57) = false := by simpa using a9
    rw [b]
    simp [a1, a2, a3, a4]
  refine ⟨fun x a1 a2 a3 a4 a5 a6 a7 a8 a9 a10 a11 a12 => funext fun j => h x j (k x a1 a2 a3 a4 a9 j), fun j hj => h _ j ?_, fun j j1 j2 => h f j (k f (by omega) (by omega) (by omega) (by omega) (by omega) j)⟩
  unfold dJ
  have : [4].contains j = false := by simpa using hj
  rw [this]
  rfl
/-- what the class has of a world, its places and roads, and what it knows of lava and warnings -/
def lcOk (M : zM) (sc wf : Nat → Int) (f w : Nat) : Prop := ntOk M sc w ∧ rPlc M ∧ rRds M ∧ w < 3 ∧ M (wid w) 0 = M 132 w ∧ (∀ c : Nat, (c : Int) < M 102 51 * M 102 52 → M (f + 3) c = sc c ∧ (1 ≤ sc c ∧ sc c ≤ 13)) ∧ (∀ p : Nat, (p : Int) < M 102 69 → M 142 p = 1 → M 50 p = wf p ∧ (wf p = -1 ∨ (0 ≤ wf p ∧ wf p ≤ 104))) ∧ zIs_0 (f : Int) ∧ M 102 51 * M 102 52 ≤ 64
theorem wid3 {w : Nat} (hw : w < 3) : zIs_10 (wid w : Int) ∧ nb (wid w) = true := by
  have : w = 0 ∨ w = 1 ∨ w = 2 := by omega
  rcases this with rfl | rfl | rfl
  · exact ⟨by unfold zIs_10 wid; simp, rfl⟩
  · exact ⟨by unfold zIs_10 wid; simp, rfl⟩
  · exact ⟨by unfold zIs_10 wid; simp, rfl⟩
theorem c_firstHour {E : zE} {M : zM} {Q : Int → zM → Prop} {w : Nat} {s : Int} (hw : w < 3) (hs : M (wid w) 0 = s) (hr : 0 ≤ s ∧ s ≤ 99) (h : Q (if s < 12 then 0 else s - 12) M) : zP E mX10_firstHour [.inr (.inr (wid w : Int))] M Q := by
  refine vcX10_firstHour _ (wid3 hw).1 ?_
  rw [Int.toNat_natCast, hs]
  refine ⟨by unfold zR; omega, ?_⟩
  by_cases q : s < 12
  · rw [if_pos q] at h
    rw [if_neg (by omega)]
    exact h
  · rw [if_neg q] at h
    by_cases q2 : s = 12
    · rw [if_neg (by omega)]
      rw [q2] at h
      exact h
    · rw [if_pos (by omega)]
      exact h
theorem c_lastHour {E : zE} {M : zM} {Q : Int → zM → Prop} {w : Nat} {s : Int} (hw : w < 3) (hs : M (wid w) 0 = s) (h : Q (s + 12) M) : zP E mX10_lastHour [.inr (.inr (wid w : Int))] M Q := by
  refine vcX10_lastHour _ (wid3 hw).1 ?_
  rw [Int.toNat_natCast, hs]
  exact h
theorem c_openTill {E : zE} {M : zM} {Q : Int → zM → Prop} {w f : Nat} {s c : Int} (hf : zIs_0 (f : Int)) (hw : w < 3) (hs : M (wid w) 0 = s) (hr : 0 ≤ s ∧ s ≤ 99) (hc : c = -1 ∨ ((0 ≤ c ∧ c < 64) ∧ (1 ≤ M (f + 3) c.toNat ∧ M (f + 3) c.toNat ≤ 13))) (h : Q (if c = -1 then s + 12 else s + M (f + 3) c.toNat - 1) M) : zP E mX0_openTill [.inr (.inr (f : Int)), .inr (.inr (wid w : Int)), .inl c] M Q := by
  refine vcX0_openTill _ _ _ hf (wid3 hw).1 ?_
  rcases hc with q | ⟨q1, q2⟩
  · rw [if_pos q] at h
    rw [q]
    exact ⟨zRd rfl, fun q2 => absurd rfl q2, fun _ => c_lastHour hw hs h⟩
  · rw [if_neg (by omega)] at h
    refine ⟨by unfold zR; omega, fun _ => ?_, fun q => by omega⟩
    refine c_lastHour hw hs ?_
    rw [Int.toNat_natCast, hs, show ((f : Int) + 3).toNat = f + 3 by omega]
    refine ⟨q1, ⟨by unfold zR; omega, by unfold zR; omega⟩, ?_⟩
    by_cases q3 : s + M (f + 3) c.toNat - 1 < s + 12
    · rw [if_pos q3]; exact h
    · rw [if_neg q3]
      rw [show s + M (f + 3) c.toNat - 1 = s + 12 by omega] at h
      exact h
theorem hrA_end {p : Nat} {b tl : Int} {i : Nat} (h : tl ≤ b + i) (k : Nat) : hrA p b tl (i + k) = hrA p b tl i := by
  induction k with
  | zero => rfl
  | succ k ih =>
    show hrA p b tl (i + k) ++ (if b + ((i + k : Nat) : Int) + 1 ≤ tl then _ else []) = _
    rw [ih, if_neg (by omega), List.append_nil]
theorem lc_town {M M' : zM} {sc wf : Nat → Int} {f w : Nat} (hb : lcOk M sc wf f w) (fl : fL f M M') {p : Nat} (hp : (p : Int) < M 102 69) {E : zE} {Q : Int → zM → Prop} (h : Q (if M 142 p = 1 then 1 else 0) M') : zP E mX3_isTown [.inr (.inr 44), .inl (p : Int)] M' Q := by
  obtain ⟨nt, ⟨p1, p2, p3, p4⟩, rd, w3, ws, rc, wh, hf, wt⟩ := hb
  have e1 : M' 44 = M 44 := fL_get fl hf rfl
  have e2 : M' 45 = M 45 := fL_get fl hf rfl
  refine c_isTown (by unfold zR; omega) (by rw [e1, p1]; exact p2) (fun i => by rw [e2]; exact p4 i) ?_
  rw [e1, e2, p1, Int.toNat_natCast]
  rcases p3 p hp with ⟨a1, a2, a3, a4, a5, a6, a7, -⟩ | ⟨a1, a2, -⟩
  · rw [if_pos a1] at h
    rw [if_pos ⟨by omega, by rw [a2]; omega⟩]
    exact h
  · rw [if_neg (by omega)] at h
    rw [if_neg (fun q => q.2 a2)]
    exact h
set_option maxHeartbeats 4000000 in
theorem c_joinHours {E : zE} {M M' : zM} {Q : Int → zM → Prop} {sc wf : Nat → Int} {f w p : Nat} {L : Arcs} (hb : lcOk M sc wf f w) (fl : fL f M M') (hp : (p : Int) < M 102 69) (ho : M' (f + 8) p = tillP M sc w p) (hL : cL M' L) (hl : L.length ≤ 200)
    (h : ∀ M2 : zM, (∀ x j, dJ x j = false → M2 x j = M' x j) → cL M2 (L ++ (hrA p (bgn M w) (tillP M sc w p) (fns M w - bgn M w).toNat ++ skA M sc w p)) → Q 0 M2) : zP E mX0_joinHours [.inr (.inr (f : Int)), .inr (.inr (wid w : Int)), .inr (.inr 44), .inr (.inr 57), .inl (p : Int)] M' Q := by
  have hb0 := hb
  obtain ⟨nt, ⟨p1, p2, p3, p4⟩, rd, w3, ws, rc, wh, hf, wt⟩ := hb
  have ff := fid4 hf
  obtain ⟨b1, b2, b3, b4⟩ := bf_r nt.2.2.1
  have tr := nt_till nt hp
  have ew : M' (wid w) = M (wid w) := fL_get fl hf (wid3 w3).2
  obtain ⟨D, hD⟩ : ∃ D : Nat, (fns M w - bgn M w).toNat = D := ⟨_, rfl⟩
  rw [hD] at b2 b3 h
  have e8 : ((f : Int) + 8).toNat = f + 8 := by omega
  have bs : bgn M w ≤ M 132 w := by unfold bgn; have := nt.2.2.1; split <;> omega
  refine vcX0_joinHours _ _ _ hf (wid3 w3).1 (fun m l4 l5 l6 M2 => l4 = (p : Int) ∧ l5 = bgn M w ∧ ∃ i : Nat, l6 = bgn M w + i ∧ bgn M w + i ≤ tillP M sc w p ∧ m = 100 - i ∧ (∀ x j, dJ x j = false → M2 x j = M' x j) ∧ cL M2 (L ++ hrA p (bgn M w) (tillP M sc w p) i)) ?_ ?_
  · refine c_firstHour (s := M 132 w) w3 (by rw [ew]; exact ws) nt.2.2.1 ?_
    exact ⟨100, rfl, rfl, 0, (Int.add_zero _).symm, by omega, rfl, fun _ _ _ => rfl, by show cL M' (L ++ []); rw [List.append_nil]; exact hL⟩
  · rintro m l4 l5 l6 M2 ⟨rfl, rfl, i, rfl, hi, rfl, f2, hL2⟩
    have fl2 : fL f M M2 := fL_t fl (fL_J hf f2)
    have eo : M2 (f + 8) p = tillP M sc w p := by
      rw [← ho]
      refine f2 (f + 8) p ?_
      rcases ff with e | e | e | e <;> rw [e] <;> rfl
    have ll := hrA_len p (bgn M w) (tillP M sc w p) i
    have ew2 : M2 (wid w) = M (wid w) := fL_get fl2 hf (wid3 w3).2
    rw [e8, Int.toNat_natCast, eo]
    refine ⟨by omega, ⟨by unfold zR; omega, by unfold zR; omega⟩, fun q => ⟨by omega, ?_⟩, fun q => ?_⟩
    · have et : bgn M w + i = tillP M sc w p := by omega
      have hfull : hrA p (bgn M w) (tillP M sc w p) D = hrA p (bgn M w) (tillP M sc w p) i := by
        rw [show D = i + (D - i) by omega, hrA_end (by omega)]
      rw [hfull] at h
      refine c_lastHour (s := M 132 w) w3 (by rw [ew2]; exact ws) ?_
      refine ⟨⟨by unfold zR; omega, by have := nt.2.2.1; unfold zR; omega⟩, fun q2 => ?_, fun q2 => ?_⟩
      · have : skA M sc w p = [] := by
          unfold skA
          rw [if_neg (show ¬ tillP M sc w p = fns M w from q2)]
        rw [this, List.append_nil] at h
        exact h M2 f2 hL2
      · have q2 : tillP M sc w p = fns M w := q2
        refine lc_town hb0 fl2 hp ?_
        have iD : i = D := by omega
        have e49 : M2 49 = M 49 := fL_get fl2 hf rfl
        have n1 := cn_lt (v := 25 * p + i) (Or.inl (by omega))
        have go : ∀ c : Int, skA M sc w p = [(25 * p + i, 401, c)] → zP E mX10_lastHour [.inr (.inr (wid w : Int))] M2 (fun r7 M8 => (zP E mX2_node [.inl (p : Int), .inl (r7 - bgn M w)] M8 (fun r9 M10 => (zP E mX2_join [.inr (.inr 57), .inl r9, .inl 201, .inl c] M10 (fun r11 M12 => Q 0 M12))))) := by
          intro c hc
          refine c_lastHour (s := M 132 w) w3 (by rw [ew2]; exact ws) ?_
          refine vcX2_node _ _ ?_
          refine c_joinN (a := 25 * p + i) (b := 401) hL2 (by rw [List.length_append]; omega) n1.1 (by decide) ?_ rfl ?_
          · rw [n1.2.1 (by omega)]
            have : M 132 w + 12 = fns M w := rfl
            omega
          · intro M5 f5 h5
            refine h M5 (fr_t f2 f5) ?_
            rw [hc, ← List.append_assoc]
            exact h5
        by_cases q3 : M 142 p = 1
        · rw [if_pos q3]
          refine ⟨zRd rfl, fun q4 => absurd q4 (by decide), fun _ => go 1000000 ?_⟩
          unfold skA
          rw [if_pos q2, hD, if_neg (by omega), iD]
        · rw [if_neg q3]
          have q0 : M 142 p = 0 ∧ M 49 p = M 147 p := by
            rcases p3 p hp with ⟨a1, -⟩ | ⟨a1, a2, a3, a4, -⟩
            · exact absurd a1 q3
            · exact ⟨a1, a4⟩
          rw [e49, q0.2]
          refine ⟨zRd rfl, fun _ => ⟨by omega, go _ ?_⟩, fun q4 => absurd rfl q4⟩
          unfold skA
          rw [if_pos q2, hD, if_pos q0.1, iD]
    · refine vcX2_node _ _ ?_
      have n1 := cn_lt (v := 25 * p + i) (Or.inl (by omega))
      have n2 := cn_lt (v := 25 * p + i + 1) (Or.inl (by omega))
      refine c_joinN (a := 25 * p + i) (b := 25 * p + i + 1) hL2 (by rw [List.length_append]; omega) n1.1 n2.1 (by rw [n1.2.1 (by omega)]; omega) (by rw [n2.2.1 (by omega)]; omega) ?_
      intro M5 f5 h5
      refine ⟨100 - (i + 1), by omega, rfl, rfl, i + 1, by omega, by omega, rfl, fr_t f2 f5, ?_⟩
      have un : hrA p (bgn M w) (tillP M sc w p) (i + 1) = hrA p (bgn M w) (tillP M sc w p) i ++ [(25 * p + i, 25 * p + i + 1, 1000000)] := by
        show _ ++ (if bgn M w + i + 1 ≤ tillP M sc w p then _ else []) = _
        rw [if_pos (by omega)]
      rw [un, ← List.append_assoc]
      exact h5
set_option maxHeartbeats 4000000 in
theorem c_bringPeople {E : zE} {M M' : zM} {Q : Int → zM → Prop} {sc wf : Nat → Int} {f w p : Nat} {L : Arcs} {st : Int} (hb : lcOk M sc wf f w) (fl : fL f M M') (hp : (p : Int) < M 102 69) (ht : M 142 p = 1) (ho : M' (f + 8) p = tillP M sc w p) (hS : M' f 8 = st) (hL : cL M' L) (hl : L.length ≤ 230)
    (h : ∀ M2 : zM, fL f M' M2 → M2 (f + 8) = M' (f + 8) → M2 f 8 = st + (if M 142 p = 1 ∧ (wf p = -1 ∨ fns M w < wf p) ∧ tillP M sc w p = fns M w then M 144 p else 0) → cL M2 (L ++ brA M sc wf w p) → Q 0 M2) : zP E mX0_bringPeople [.inr (.inr (f : Int)), .inr (.inr (wid w : Int)), .inr (.inr 44), .inr (.inr 57), .inl (p : Int)] M' Q := by
  have hb0 := hb
  obtain ⟨nt, ⟨p1, p2, p3, p4⟩, rd, w3, ws, rc, wh, hf, wt⟩ := hb
  have ff := fid4 hf
  obtain ⟨b1, b2, b3, b4⟩ := bf_r nt.2.2.1
  have tr := nt_till nt hp
  have ew : M' (wid w) = M (wid w) := fL_get fl hf (wid3 w3).2
  have e8 : ((f : Int) + 8).toNat = f + 8 := by omega
  have e0 : (f : Int).toNat = f := Int.toNat_natCast f
  have e50 : M' 50 p = wf p := by rw [fL_get fl hf (y := 50) rfl]; exact (wh p hp ht).1
  have wr := (wh p hp ht).2
  have e46 : M' 46 p = M 144 p := by
    rw [fL_get fl hf (y := 46) rfl]
    rcases p3 p hp with ⟨a1, a2, a3, -⟩ | ⟨a1, -⟩
    · exact a3
    · omega
  have fd : M 132 w + 12 = fns M w := rfl
  have bd : (if M 132 w < 12 then 0 else M 132 w - 12) = bgn M w := rfl
  have sr := nt.2.2.1
  refine vcX0_bringPeople _ _ _ hf (wid3 w3).1 ?_
  rw [e8, e0, Int.toNat_natCast, e50, ho, hS]
  have stay : (wf p = -1 ∨ fns M w < wf p) → ∀ M7 : zM, M7 = zup M' f 8 (st + (if tillP M sc w p = fns M w then M 144 p else 0)) → Q 0 M7 := by
    intro hst M7 h7
    refine h M7 ⟨fun x _ _ _ _ _ _ _ _ _ x1 _ _ => by rw [h7, zup_ne _ _ _ x1], fun j _ => by rw [h7, zup_ne _ _ _ (by omega)], fun j j1 _ => by rw [h7, zup_a, up1_n _ _ j1]⟩ (by rw [h7, zup_ne _ _ _ (by omega)]) ?_ ?_
    · rw [h7, zup_a, up1_s]
      by_cases q2 : tillP M sc w p = fns M w
      · rw [if_pos q2, if_pos ⟨ht, hst, q2⟩]
      · rw [if_neg q2, if_neg (fun q3 => q2 q3.2.2)]
    · have : brA M sc wf w p = [] := by
        unfold brA
        rw [if_neg (fun q => by omega)]
      rw [this, List.append_nil]
      refine cL_fr (fun y hy => by rw [h7, zup_ne _ _ _ (by omega)]) (by rw [h7, zup_ne _ _ _ (by omega)]) hL
  have pz : 0 ≤ (p : Int) ∧ (p : Int) < 8 := by omega
  refine ⟨pz, by unfold zR; omega, fun q1 => ⟨pz, ?_⟩, fun q1 => ?_⟩
  · refine c_lastHour (s := M 132 w) w3 (by rw [ew]; exact ws) ?_
    rw [fd, e46]
    refine ⟨⟨by unfold zR; omega, by unfold zR; omega⟩, fun q2 => ?_, fun q2 => ⟨pz, ?_⟩⟩
    · rw [if_neg q2] at stay
      exact stay (Or.inl q1)
    · rw [if_pos q2] at stay
      exact stay (Or.inl q1)
  · refine c_lastHour (s := M 132 w) w3 (by rw [ew]; exact ws) ?_
    rw [fd, ho, hS]
    refine ⟨⟨by unfold zR; omega, by unfold zR; omega⟩, fun q2 => ?_, fun q2 => ⟨pz, ?_⟩⟩
    · refine c_firstHour (s := M 132 w) w3 (by rw [ew]; exact ws) sr ?_
      rw [bd, ho]
      obtain ⟨hh, eh⟩ : ∃ hh, hh = (if wf p < bgn M w then bgn M w else wf p) := ⟨_, rfl⟩
      have hr : bgn M w ≤ hh ∧ hh ≤ fns M w := by rw [eh]; split <;> omega
      rw [← eh]
      have nost : ¬ (M 142 p = 1 ∧ (wf p = -1 ∨ fns M w < wf p) ∧ tillP M sc w p = fns M w) := fun q => by omega
      rw [if_neg nost] at h
      refine ⟨⟨by unfold zR; omega, by unfold zR; omega⟩, pz, ⟨by unfold zR; omega, by unfold zR; omega⟩, fun q3 => ?_, fun q3 => ?_⟩
      · refine h M' (fL_r f M') rfl (by rw [hS]; omega) ?_
        have : brA M sc wf w p = [] := by
          unfold brA
          rw [← eh, if_neg (fun q => by omega)]
        rw [this, List.append_nil]
        exact hL
      · refine c_firstHour (s := M 132 w) w3 (by rw [ew]; exact ws) sr ?_
        rw [bd]
        refine vcX2_node _ _ ⟨pz, ?_⟩
        rw [e46]
        have n1 := cn_lt (v := 25 * p + (hh - bgn M w).toNat) (Or.inl (by omega))
        refine c_joinN (a := 400) (b := 25 * p + (hh - bgn M w).toNat) hL (by omega) (by decide) n1.1 rfl (by rw [n1.2.1 (by omega)]; omega) ?_
        intro M5 f5 h5
        have fl5 := fL_J hf f5
        refine h M5 fl5 ?_ ?_ ?_
        · funext j
          refine f5 (f + 8) j ?_
          rcases ff with e | e | e | e <;> rw [e] <;> rfl
        · have : M5 f 8 = M' f 8 := by
            refine f5 f _ ?_
            rcases ff with e | e | e | e <;> rw [e] <;> rfl
          rw [this, hS]
          omega
        · have : brA M sc wf w p = [(400, 25 * p + (hh - bgn M w).toNat, M 144 p)] := by
            unfold brA
            rw [← eh, if_pos ⟨ht, q1, q2, q3⟩]
          rw [this]
          exact h5
    · refine c_lastHour (s := M 132 w) w3 (by rw [ew]; exact ws) ?_
      rw [fd, e46]
      refine ⟨⟨by unfold zR; omega, by unfold zR; omega⟩, fun q3 => ?_, fun q3 => ⟨pz, ?_⟩⟩
      · rw [if_neg q3] at stay
        exact stay (Or.inr q2)
      · rw [if_pos q3] at stay
        exact stay (Or.inr q2)
