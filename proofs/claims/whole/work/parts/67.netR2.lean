/-! the reference lays the arcs -/
/-- the places are good ones, and so is what lava has reached -/
def plOk (M : zM) : Prop := (0 ≤ M 102 69 ∧ M 102 69 ≤ 8) ∧ ∀ p : Nat, (p : Int) < M 102 69 → (M 142 p = 0 ∧ (0 ≤ M 147 p ∧ M 147 p ≤ 9999)) ∨ (M 142 p = 1 ∧ (0 ≤ M 143 p ∧ M 143 p < 64) ∧ (1 ≤ M 139 (M 143 p).toNat ∧ M 139 (M 143 p).toNat ≤ 13) ∧ (1 ≤ M 144 p ∧ M 144 p ≤ 999) ∧ (1 ≤ M 145 p ∧ M 145 p ≤ 4) ∧ (0 ≤ M 146 p ∧ M 146 p ≤ 5))
theorem till_r {M : zM} {w p : Nat} (hp : plOk M) (hpp : (p : Int) < M 102 69) : M 132 w ≤ tillP M (M 139) w p ∧ tillP M (M 139) w p ≤ fns M w := by
  unfold tillP fns
  rcases hp.2 p hpp with ⟨a, -⟩ | ⟨a, -, b, -⟩
  · rw [if_pos a]; omega
  · rw [if_neg (by omega)]; omega
theorem r_isOpen {E : zE} {M : zM} {Q : Int → zM → Prop} {w p : Nat} {h0 : Int} (hw : w < 3) (hp : plOk M) (hpp : (p : Int) < M 102 69) (hs : 0 ≤ M 132 w ∧ M 132 w ≤ 99) (hh : 0 ≤ h0 ∧ h0 ≤ fns M w) (h : Q (if h0 ≤ tillP M (M 139) w p then 1 else 0) M) : zP E mX12_isOpen [.inr (.inr 102), .inl (w : Int), .inl (p : Int), .inl h0] M Q := by
  refine vcX12_isOpen _ _ _ ?_
  rw [Int.toNat_natCast]
  have p8 := hp.1
  unfold tillP at h
  unfold fns at hh
  rcases hp.2 p hpp with ⟨a, -⟩ | ⟨a, c, b, -⟩
  · rw [if_pos a, if_pos hh.2] at h
    rw [a]
    exact ⟨by omega, zRd rfl, fun _ => h, fun q => absurd rfl q⟩
  · rw [if_neg (show ¬ M 142 p = 0 by omega)] at h
    rw [a]
    refine ⟨by omega, zRd rfl, fun q => absurd q (by decide), fun _ => ⟨by omega, ?_⟩⟩
    refine vcX12_shutFrom _ _ ?_
    rw [Int.toNat_natCast]
    generalize M 139 (M 143 p).toNat = s at *
    refine ⟨c, by unfold zR; omega, fun q => ⟨by omega, c, ⟨by unfold zR; omega, by unfold zR; omega⟩, fun q2 => ?_, fun q2 => ?_⟩, fun q => ⟨⟨zRd rfl, by unfold zR; omega⟩, fun q2 => by omega, fun q2 => ?_⟩⟩
    · rw [if_neg (by omega)] at h; exact h
    · rw [if_pos (by omega)] at h; exact h
    · rw [if_pos (by omega)] at h; exact h
/-- what one place may change -/
def dT (x j : Nat) : Bool := [156, 157, 158, 159].contains x || (x == 102 && [85, 94].contains j)
theorem dB_T (x j : Nat) (h : dT x j = false) : dB x j = false := by
  unfold dT at h
  unfold dB
  rw [Bool.or_eq_false_iff] at h ⊢
  refine ⟨h.1, ?_⟩
  have h2 := h.2
  cases hx : (x == 102)
  · rfl
  · rw [hx] at h2
    simp only [Bool.true_and] at h2 ⊢
    cases hj : [85].contains j
    · rfl
    · have : j = 85 := by simpa using hj
      subst this
      cases h2
theorem dT_A (x j : Nat) (h : dA x j = false) : dT x j = false := by
  unfold dA at h
  unfold dT
  rw [Bool.or_eq_false_iff] at h ⊢
  refine ⟨h.1, ?_⟩
  have h2 := h.2
  cases hx : (x == 102)
  · rfl
  · rw [hx] at h2
    simp only [Bool.true_and] at h2 ⊢
    cases hj : [85, 94].contains j
    · rfl
    · have : j = 85 ∨ j = 94 := by simpa using hj
      rcases this with this | this <;> subst this <;> cases h2
theorem plOk_c {M M' : zM} (f : ∀ x j, dA x j = false → M' x j = M x j) (h : plOk M) : plOk M' := by
  unfold plOk
  have e1 : M' 142 = M 142 := funext fun j => f 142 j rfl
  have e2 : M' 147 = M 147 := funext fun j => f 147 j rfl
  have e3 : M' 143 = M 143 := funext fun j => f 143 j rfl
  have e4 : M' 139 = M 139 := funext fun j => f 139 j rfl
  have e5 : M' 144 = M 144 := funext fun j => f 144 j rfl
  have e6 : M' 145 = M 145 := funext fun j => f 145 j rfl
  have e7 : M' 146 = M 146 := funext fun j => f 146 j rfl
  rw [f 102 69 rfl, e1, e2, e3, e4, e5, e6, e7]
  exact h
theorem till_c {M M' : zM} (f : ∀ x j, dA x j = false → M' x j = M x j) (w p : Nat) : tillP M' (M' 139) w p = tillP M (M 139) w p ∧ fns M' w = fns M w ∧ bgn M' w = bgn M w := by
  unfold tillP fns bgn
  have e4 : M' 139 = M 139 := funext fun j => f 139 j rfl
  rw [f 142 p rfl, f 143 p rfl, f 132 w rfl, e4]
  exact ⟨rfl, rfl, rfl⟩
set_option maxHeartbeats 4000000 in
theorem r_laysTown {E : zE} {M : zM} {Q : Int → zM → Prop} {w p : Nat} {L : Arcs} {wf : Nat → Int} (hw : w < 3) (hp : plOk M) (hpp : (p : Int) < M 102 69) (ht : M 142 p = 1) (hs : 0 ≤ M 132 w ∧ M 132 w ≤ 99) (hb : M 102 92 = bgn M w) (hf : M 102 93 = fns M w) (hA : aR M L) (hl : L.length ≤ 1300) (hlv : ∀ h, h < 100 → zR (M 154 h)) (hwf : wf p = wat (M 154) (M 145 p) (M 146 p) 0 100)
    (h : ∀ M' : zM, (∀ x j, dT x j = false → M' x j = M x j) → aR M' (L ++ plA M (M 139) wf w p) → M' 102 94 = M 102 94 + (if M 142 p = 1 ∧ (wf p = -1 ∨ fns M w < wf p) ∧ tillP M (M 139) w p = fns M w then M 144 p else 0) → Q 0 M') : zP E mX12_laysTown [.inr (.inr 102), .inl (w : Int), .inl (p : Int)] M Q := by
  obtain ⟨b1, b2, b3, b4⟩ := bf_r hs
  have tr := till_r (w := w) hp hpp
  have p8 := hp.1
  obtain ⟨D, hD⟩ : ∃ D : Nat, (fns M w - bgn M w).toNat = D := ⟨_, rfl⟩
  rw [hD] at b2 b3
  have wr : wf p = -1 ∨ (0 ≤ wf p ∧ wf p ≤ 104) := by
    rw [hwf]
    rcases hp.2 p hpp with ⟨a, -⟩ | ⟨-, -, -, -, -, a⟩
    · omega
    · have := wat_r (lv := M 154) (t := M 145 p) a 0 100
      omega
  have pb : 1 ≤ M 144 p ∧ M 144 p ≤ 999 := by
    rcases hp.2 p hpp with ⟨a, -⟩ | ⟨-, -, -, a, -⟩
    · omega
    · exact a
  have tb : 1 ≤ M 145 p ∧ M 145 p ≤ 4 := by
    rcases hp.2 p hpp with ⟨a, -⟩ | ⟨-, -, -, -, a, -⟩
    · omega
    · exact a
  refine vcX12_laysTown _ _ (fun m l1 l2 l3 M' => l1 = (w : Int) ∧ l2 = (p : Int) ∧ ∃ i : Nat, l3 = bgn M w + i ∧ i ≤ D ∧ m = D - i ∧ (∀ x j, dT x j = false → M' x j = M x j) ∧ M' 102 94 = M 102 94 ∧ aR M' (L ++ hrA p (bgn M w) (tillP M (M 139) w p) i)) ⟨D - 0, rfl, rfl, 0, by rw [hb]; omega, by omega, rfl, fun _ _ _ => rfl, rfl, by show aR M (L ++ []); rw [List.append_nil]; exact hA⟩ ?_
  rintro m l1 l2 l3 M' ⟨rfl, rfl, i, rfl, hi, rfl, fr', st', hA'⟩
  have fA : ∀ x j, dA x j = false → M' x j = M x j := fun x j hx => fr' x j (dT_A x j hx)
  have eb : M' 102 92 = bgn M w := by rw [fr' 102 92 rfl]; exact hb
  have ef : M' 102 93 = fns M w := by rw [fr' 102 93 rfl]; exact hf
  have hp' := plOk_c fA hp
  have hpp' : (p : Int) < M' 102 69 := by rw [fr' 102 69 rfl]; exact hpp
  have hs' : 0 ≤ M' 132 w ∧ M' 132 w ≤ 99 := by rw [fr' 132 w rfl]; exact hs
  obtain ⟨tc1, tc2, tc3⟩ := till_c fA w p
  have hl' := hrA_len p (bgn M w) (tillP M (M 139) w p) i
  rw [ef]
  refine ⟨⟨by unfold zR; omega, by unfold zR; omega⟩, fun q => ?_, fun q => ?_⟩
  · have iD : i = D := by omega
    subst iD
    have rest : ∀ (Mx : zM) (Lx : Arcs), (∀ x j, dT x j = false → Mx x j = M x j) → Mx 102 94 = M 102 94 → aR Mx Lx → Lx.length ≤ 1330 → Lx = L ++ (hrA p (bgn M w) (tillP M (M 139) w p) i ++ skA M (M 139) w p) →
        zP E mX12_warnedAt [.inr (.inr 102), .inl (p : Int)] Mx (fun r3 M4 => ((zR r3) ∧ ((r3 = (-1) → (zP E mX12_isOpen [.inr (.inr 102), .inl (w : Int), .inl (p : Int), .inl (M4 102 93)] M4 (fun r5 M6 => ((zR r5) ∧ ((r5 = 0 → (∀ M7, M7 = zup M6 102 94 ((M4 102 94) + 0) → Q 0 M7)) ∧ (¬ r5 = 0 → (0 ≤ (p : Int) ∧ (p : Int) < 8) ∧ (∀ M8, M8 = zup M6 102 94 ((M4 102 94) + (M6 144 (p : Int).toNat)) → Q 0 M8))))))) ∧ (¬ r3 = (-1) → ((zR r3 ∧ zR (M4 102 93)) ∧ ((r3 ≤ (M4 102 93) → ((zR r3 ∧ zR (M4 102 92)) ∧ (((M4 102 92) ≤ r3 → (zP E mX12_isOpen [.inr (.inr 102), .inl (w : Int), .inl (p : Int), .inl r3] M4 (fun r9 M10 => ((zR r9) ∧ ((r9 = 0 → Q 0 M10) ∧ (¬ r9 = 0 → (zP E mX12_nodeOf [.inr (.inr 102), .inl (p : Int), .inl r3] M10 (fun r11 M12 => (0 ≤ (p : Int) ∧ (p : Int) < 8) ∧ (zP E mX12_arc [.inr (.inr 102), .inl 400, .inl r11, .inl (M12 144 (p : Int).toNat)] M12 (fun r13 M14 => Q 0 M14)))))))))) ∧ (r3 < (M4 102 92) → (zP E mX12_isOpen [.inr (.inr 102), .inl (w : Int), .inl (p : Int), .inl (M4 102 92)] M4 (fun r15 M16 => ((zR r15) ∧ ((r15 = 0 → Q 0 M16) ∧ (¬ r15 = 0 → (zP E mX12_nodeOf [.inr (.inr 102), .inl (p : Int), .inl (M4 102 92)] M16 (fun r17 M18 => (0 ≤ (p : Int) ∧ (p : Int) < 8) ∧ (zP E mX12_arc [.inr (.inr 102), .inl 400, .inl r17, .inl (M18 144 (p : Int).toNat)] M18 (fun r19 M20 => Q 0 M20))))))))))))) ∧ ((M4 102 93) < r3 → (zP E mX12_isOpen [.inr (.inr 102), .inl (w : Int), .inl (p : Int), .inl (M4 102 93)] M4 (fun r21 M22 => ((zR r21) ∧ ((r21 = 0 → (∀ M23, M23 = zup M22 102 94 ((M4 102 94) + 0) → Q 0 M23)) ∧ (¬ r21 = 0 → (0 ≤ (p : Int) ∧ (p : Int) < 8) ∧ (∀ M24, M24 = zup M22 102 94 ((M4 102 94) + (M22 144 (p : Int).toNat)) → Q 0 M24))))))))))))) := by
      intro Mx Lx fx sx ax lx ex
      have fxA : ∀ x j, dA x j = false → Mx x j = M x j := fun x j hx => fx x j (dT_A x j hx)
      have eb : Mx 102 92 = bgn M w := by rw [fx 102 92 rfl]; exact hb
      have ef : Mx 102 93 = fns M w := by rw [fx 102 93 rfl]; exact hf
      have epp : Mx 144 p = M 144 p := fx 144 p rfl
      have hpx := plOk_c fxA hp
      have hppx : (p : Int) < Mx 102 69 := by rw [fx 102 69 rfl]; exact hpp
      have hsx : 0 ≤ Mx 132 w ∧ Mx 132 w ≤ 99 := by rw [fx 132 w rfl]; exact hs
      obtain ⟨tx1, tx2, tx3⟩ := till_c fxA w p
      have elv : Mx 154 = M 154 := funext fun j => fx 154 j rfl
      refine r_warnW (by omega) (fun j hj => by rw [elv]; exact hlv j hj) (by rw [fx 145 p rfl]; unfold zR; omega) ?_
      rw [elv, fx 145 p rfl, fx 146 p rfl, ← hwf, ef, eb, sx, Int.toNat_natCast]
      have stay : ∀ M7 : zM, (wf p = -1 ∨ fns M w < wf p) → M7 = zup Mx 102 94 (M 102 94 + (if tillP M (M 139) w p = fns M w then M 144 p else 0)) → Q 0 M7 := by
        intro M7 hst h7
        refine h M7 ?_ ?_ ?_
        · rw [h7]
          exact fr_t fx (fr_up rfl)
        · unfold plA
          rw [hD]
          have : brA M (M 139) wf w p = [] := by
            unfold brA
            rw [if_neg (fun q => by omega)]
          rw [this, List.append_nil, ← ex]
          refine aR_c (fun x hx => ?_) ?_ ax
          · rw [h7]
            rcases hx with hx | hx | hx | hx <;> subst hx <;> exact zup_ne _ _ _ (by decide)
          · rw [h7, zup_a, up1_n _ _ (by decide)]
        · rw [h7, zup_a, up1_s]
          by_cases q2 : tillP M (M 139) w p = fns M w
          · rw [if_pos q2, if_pos ⟨ht, hst, q2⟩]
          · rw [if_neg q2, if_neg (fun q3 => q2 q3.2.2)]
      have closed : (wf p = -1 ∨ fns M w < wf p) → zP E mX12_isOpen [.inr (.inr 102), .inl (w : Int), .inl (p : Int), .inl (fns M w)] Mx (fun r5 M6 => ((zR r5) ∧ ((r5 = 0 → (∀ M7, M7 = zup M6 102 94 (M 102 94 + 0) → Q 0 M7)) ∧ (¬ r5 = 0 → (0 ≤ (p : Int) ∧ (p : Int) < 8) ∧ (∀ M8, M8 = zup M6 102 94 (M 102 94 + (M6 144 p)) → Q 0 M8))))) := by
        intro hst
        refine r_isOpen hw hpx hppx hsx (by rw [tx2]; omega) ?_
        rw [tx1, epp]
        by_cases q2 : fns M w ≤ tillP M (M 139) w p
        · rw [if_pos q2]
          have q3 : tillP M (M 139) w p = fns M w := by omega
          rw [if_pos q3] at stay
          exact ⟨zRd rfl, fun q4 => absurd q4 (by decide), fun _ => ⟨by omega, fun M8 h8 => stay M8 hst h8⟩⟩
        · rw [if_neg q2]
          rw [if_neg (by omega)] at stay
          exact ⟨zRd rfl, fun _ => fun M8 h8 => stay M8 hst h8, fun q4 => absurd rfl q4⟩
      have bring : ∀ hh : Int, wf p ≠ -1 → wf p ≤ fns M w → hh = (if wf p < bgn M w then bgn M w else wf p) → zP E mX12_isOpen [.inr (.inr 102), .inl (w : Int), .inl (p : Int), .inl hh] Mx (fun r9 M10 => ((zR r9) ∧ ((r9 = 0 → Q 0 M10) ∧ (¬ r9 = 0 → (zP E mX12_nodeOf [.inr (.inr 102), .inl (p : Int), .inl hh] M10 (fun r11 M12 => (0 ≤ (p : Int) ∧ (p : Int) < 8) ∧ (zP E mX12_arc [.inr (.inr 102), .inl 400, .inl r11, .inl (M12 144 p)] M12 (fun r13 M14 => Q 0 M14)))))))) := by
        intro hh n1 n2 eh
        have hr : bgn M w ≤ hh ∧ hh ≤ fns M w := by rw [eh]; split <;> omega
        refine r_isOpen hw hpx hppx hsx (by rw [tx2]; omega) ?_
        rw [tx1]
        have nost : ¬ (M 142 p = 1 ∧ (wf p = -1 ∨ fns M w < wf p) ∧ tillP M (M 139) w p = fns M w) := fun q => by omega
        rw [if_neg nost] at h
        by_cases q2 : hh ≤ tillP M (M 139) w p
        · rw [if_pos q2]
          refine ⟨zRd rfl, fun q4 => absurd q4 (by decide), fun _ => ?_⟩
          refine vcX12_nodeOf _ _ ⟨by omega, ?_⟩
          rw [epp, eb, show 25 * (p : Int) + hh - bgn M w = ((25 * p + (hh - bgn M w).toNat : Nat) : Int) by omega]
          refine r_arc (a := 400) ax (by omega) ?_
          intro M14 f14 a14
          refine h M14 (fr_t fx (fun x j hx => f14 x j (dB_T x j hx))) ?_ (by rw [f14 102 94 rfl, sx]; omega)
          unfold plA
          rw [hD]
          have : brA M (M 139) wf w p = [(400, 25 * p + (hh - bgn M w).toNat, M 144 p)] := by
            unfold brA
            rw [← eh, if_pos ⟨ht, n1, n2, q2⟩]
          rw [this, ← List.append_assoc, ← ex]
          exact a14
        · rw [if_neg q2]
          refine ⟨zRd rfl, fun _ => ?_, fun q4 => absurd rfl q4⟩
          refine h Mx fx ?_ (by rw [sx]; omega)
          unfold plA
          rw [hD]
          have : brA M (M 139) wf w p = [] := by
            unfold brA
            rw [← eh, if_neg (fun q => q2 q.2.2.2)]
          rw [this, List.append_nil, ← ex]
          exact ax
      refine ⟨by unfold zR; omega, fun q1 => closed (Or.inl q1), fun q1 => ⟨⟨by unfold zR; omega, by unfold zR; omega⟩, fun q2 => ⟨⟨by unfold zR; omega, by unfold zR; omega⟩, fun q3 => bring _ q1 q2 (by rw [if_neg (by omega)]), fun q3 => bring _ q1 q2 (by rw [if_pos q3])⟩, fun q2 => closed (Or.inr q2)⟩⟩
    refine r_isOpen hw hp' hpp' hs' (by rw [tc2]; omega) ?_
    rw [tc1]
    by_cases q2 : fns M w ≤ tillP M (M 139) w p
    · rw [if_pos q2]
      have q3 : tillP M (M 139) w p = fns M w := by omega
      refine ⟨zRd rfl, fun q4 => absurd q4 (by decide), fun _ => ?_⟩
      refine vcX12_nodeOf _ _ ?_
      rw [ef, eb, show 25 * (p : Int) + fns M w - bgn M w = ((25 * p + i : Nat) : Int) by omega]
      refine r_arc (b := 401) hA' (by rw [List.length_append]; omega) ?_
      intro M9 f9 a9
      refine rest M9 _ (fr_t fr' (fun x j hx => f9 x j (dB_T x j hx))) (by rw [f9 102 94 rfl]; exact st') a9 (by rw [List.length_append, List.length_append, List.length_singleton]; omega) ?_
      have : skA M (M 139) w p = [(25 * p + i, 401, 1000000)] := by
        unfold skA
        rw [if_pos q3, hD, if_neg (by omega)]
      rw [this, List.append_assoc]
    · rw [if_neg q2]
      refine ⟨zRd rfl, fun _ => ?_, fun q4 => absurd rfl q4⟩
      refine rest M' _ fr' st' hA' (by rw [List.length_append]; omega) ?_
      have : skA M (M 139) w p = [] := by
        unfold skA
        rw [if_neg (by omega)]
      rw [this, List.append_nil]
  · refine r_isOpen hw hp' hpp' hs' (by rw [tc2]; omega) ?_
    rw [tc1]
    have un : hrA p (bgn M w) (tillP M (M 139) w p) (i + 1) = hrA p (bgn M w) (tillP M (M 139) w p) i ++ (if bgn M w + i + 1 ≤ tillP M (M 139) w p then [(25 * p + i, 25 * p + i + 1, 1000000)] else []) := rfl
    by_cases q2 : bgn M w + i + 1 ≤ tillP M (M 139) w p
    · rw [if_pos q2]
      rw [if_pos q2] at un
      refine ⟨zRd rfl, fun q4 => absurd q4 (by decide), fun _ => ?_⟩
      refine vcX12_nodeOf _ _ ?_
      refine vcX12_nodeOf _ _ ?_
      rw [eb, show 25 * (p : Int) + (bgn M w + i) - bgn M w = ((25 * p + i : Nat) : Int) by omega, show 25 * (p : Int) + (bgn M w + i + 1) - bgn M w = ((25 * p + i + 1 : Nat) : Int) by omega]
      refine r_arc hA' (by rw [List.length_append]; omega) ?_
      intro M9 f9 a9
      refine ⟨D - (i + 1), by omega, rfl, rfl, i + 1, by omega, by omega, rfl, fr_t fr' (fun x j hx => f9 x j (dB_T x j hx)), by rw [f9 102 94 rfl]; exact st', ?_⟩
      rw [un, ← List.append_assoc]
      exact a9
    · rw [if_neg q2]
      rw [if_neg q2, List.append_nil] at un
      refine ⟨zRd rfl, fun _ => ⟨D - (i + 1), by omega, rfl, rfl, i + 1, by omega, by omega, rfl, fr', st', by rw [un]; exact hA'⟩, fun q4 => absurd rfl q4⟩
set_option maxHeartbeats 4000000 in
theorem r_laysShelter {E : zE} {M : zM} {Q : Int → zM → Prop} {w p : Nat} {L : Arcs} {wf : Nat → Int} (hp : plOk M) (hpp : (p : Int) < M 102 69) (ht : M 142 p = 0) (hs : 0 ≤ M 132 w ∧ M 132 w ≤ 99) (hb : M 102 92 = bgn M w) (hf : M 102 93 = fns M w) (hA : aR M L) (hl : L.length ≤ 1300)
    (h : ∀ M' : zM, (∀ x j, dB x j = false → M' x j = M x j) → aR M' (L ++ plA M (M 139) wf w p) → Q 0 M') : zP E mX12_laysShelter [.inr (.inr 102), .inl (p : Int)] M Q := by
  obtain ⟨b1, b2, b3, b4⟩ := bf_r hs
  have p8 := hp.1
  obtain ⟨D, hD⟩ : ∃ D : Nat, (fns M w - bgn M w).toNat = D := ⟨_, rfl⟩
  rw [hD] at b2 b3
  have tl : tillP M (M 139) w p = fns M w := by
    unfold tillP fns
    rw [if_pos ht]
  refine vcX12_laysShelter _ (fun m l1 l2 M' => l1 = (p : Int) ∧ ∃ i : Nat, l2 = bgn M w + i ∧ i ≤ D ∧ m = D - i ∧ (∀ x j, dB x j = false → M' x j = M x j) ∧ aR M' (L ++ hrA p (bgn M w) (tillP M (M 139) w p) i)) ⟨D - 0, rfl, 0, by rw [hb]; omega, by omega, rfl, fun _ _ _ => rfl, by show aR M (L ++ []); rw [List.append_nil]; exact hA⟩ ?_
  rintro m l1 l2 M' ⟨rfl, i, rfl, hi, rfl, fr', hA'⟩
  have eb : M' 102 92 = bgn M w := by rw [fr' 102 92 rfl]; exact hb
  have ef : M' 102 93 = fns M w := by rw [fr' 102 93 rfl]; exact hf
  have hl' := hrA_len p (bgn M w) (tillP M (M 139) w p) i
  rw [ef]
  refine ⟨⟨by unfold zR; omega, by unfold zR; omega⟩, fun q => ?_, fun q => ?_⟩
  · have iD : i = D := by omega
    subst iD
    refine vcX12_nodeOf _ _ ⟨by omega, ?_⟩
    rw [eb, Int.toNat_natCast, fr' 147 p rfl, show 25 * (p : Int) + fns M w - bgn M w = ((25 * p + i : Nat) : Int) by omega]
    refine r_arc (b := 401) hA' (by rw [List.length_append]; omega) ?_
    intro M9 f9 a9
    refine h M9 (fr_t fr' f9) ?_
    unfold plA
    have e1 : skA M (M 139) w p = [(25 * p + i, 401, M 147 p)] := by
      unfold skA
      rw [if_pos tl, hD, if_pos ht]
    have e2 : brA M (M 139) wf w p = [] := by
      unfold brA
      rw [if_neg (fun q => by omega)]
    rw [e1, e2, List.append_nil, hD, ← List.append_assoc]
    exact a9
  · refine vcX12_nodeOf _ _ ?_
    refine vcX12_nodeOf _ _ ?_
    rw [eb, show 25 * (p : Int) + (bgn M w + i) - bgn M w = ((25 * p + i : Nat) : Int) by omega, show 25 * (p : Int) + (bgn M w + i + 1) - bgn M w = ((25 * p + i + 1 : Nat) : Int) by omega]
    refine r_arc hA' (by rw [List.length_append]; omega) ?_
    intro M9 f9 a9
    refine ⟨D - (i + 1), by omega, rfl, i + 1, by omega, by omega, rfl, fr_t fr' f9, ?_⟩
    have un : hrA p (bgn M w) (tillP M (M 139) w p) (i + 1) = hrA p (bgn M w) (tillP M (M 139) w p) i ++ (if bgn M w + i + 1 ≤ tillP M (M 139) w p then [(25 * p + i, 25 * p + i + 1, 1000000)] else []) := rfl
    rw [if_pos (by rw [tl]; omega)] at un
    rw [un, ← List.append_assoc]
    exact a9
