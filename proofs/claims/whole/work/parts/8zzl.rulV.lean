/-! the reader of rules: the text alone counts; the reference's rules() -/
theorem whl_t {p : Int → Bool} {t t' : Nat → Int} (k a : Nat) (h : ∀ i, a ≤ i → i < a + k → t' i = t i) : whl p t' k a = whl p t k a := by
  induction k generalizing a with
  | zero => rfl
  | succ k ih =>
    unfold whl
    rw [h a (Nat.le_refl _) (by omega), ih (a + 1) (fun i h1 h2 => h i (by omega) (by omega))]
theorem wh_t {p : Int → Bool} {t t' : Nat → Int} {n a : Nat} (h : ∀ i, i < n → t' i = t i) : wh p t' n a = wh p t n a := by
  unfold wh
  by_cases q : a ≤ n
  · exact whl_t _ _ (fun i h1 h2 => h i (by omega))
  · rw [show n - a = 0 by omega]
    rfl
theorem nmv_t {t t' : Nat → Int} {a : Nat} (k : Nat) (h : ∀ i, i < k → t' (a + i) = t (a + i)) : nmv t' a k = nmv t a k := by
  induction k with
  | zero => rfl
  | succ k ih =>
    unfold nmv
    rw [ih (fun i hi => h i (by omega)), h k (by omega)]
theorem wdB_t {t t' : Nat → Int} {a f : Nat} (k : Nat) (h : ∀ i, i < k → t' (a + i) = t (a + i)) : wdB t' a f k = wdB t a f k := by
  induction k with
  | zero => rfl
  | succ k ih =>
    unfold wdB
    rw [ih (fun i hi => h i (by omega)), h k (by omega)]
theorem wrT_t {t t' : Nat → Int} {a b : Nat} (h : ∀ i, i < b - a → t' (a + i) = t (a + i)) (g : Nat) : wrT t' a b g = wrT t a b g := by
  induction g with
  | zero => rfl
  | succ g ih =>
    rw [wrT_u, wrT_u, ih]
    by_cases q : g - wdS g = b - a
    · rw [q, wdB_t _ h]
    · rw [if_neg (fun q2 => q q2.2.1), if_neg (fun q2 => q q2.2.1)]
theorem lx_t {t t' : Nat → Int} {n a : Nat} (h : ∀ i, i < n → t' i = t i) (han : a ≤ n) : lxP t' n a = lxP t n a ∧ lxE t' n a = lxE t n a ∧ lxK t' n a = lxK t n a ∧ lxN t' n a = lxN t n a := by
  have hp : lxP t' n a = lxP t n a := wh_t h
  have pr := (lx_r (t := t) han).1
  have hb : ∀ i, byD t' n i = byD t n i := fun i => by
    unfold byD
    by_cases q : i < n
    · rw [if_pos q, if_pos q, h i q]
    · rw [if_neg q, if_neg q]
  have hL : wh isL t' n (lxP t n a) = wh isL t n (lxP t n a) := wh_t h
  have hD : wh isD t' n (lxP t n a) = wh isD t n (lxP t n a) := wh_t h
  have rL := wh_r (p := isL) (t := t) pr.2
  have rD := wh_r (p := isD) (t := t) pr.2
  refine ⟨hp, ?_, ?_, ?_⟩
  · unfold lxE
    rw [hp, hL, hD, hb]
    by_cases q : n ≤ lxP t n a
    · rw [if_pos q, if_pos q]
    · rw [if_neg q, if_neg q, h _ (by omega)]
  · unfold lxK
    rw [hp, hL, hb]
    by_cases q : n ≤ lxP t n a
    · rw [if_pos q, if_pos q]
    · rw [if_neg q, if_neg q, h _ (by omega), wrT_t (fun i hi => h _ (by omega))]
  · unfold lxN
    rw [hp, hD]
    exact nmv_t _ (fun i hi => h _ (by omega))
theorem nx_t {t t' : Nat → Int} {n a : Nat} (h : ∀ i, i < n → t' i = t i) (han : a ≤ n) (M : zM) : nxM M t' n a = nxM M t n a := by
  obtain ⟨h1, h2, h3, h4⟩ := lx_t h han
  unfold nxM
  rw [h1, h2, h3, h4]
  congr 1
  by_cases q : n ≤ lxP t n a
  · rw [if_pos q, if_pos q]
  · rw [if_neg q, if_neg q, h _ (by omega)]
theorem rn_t {b : Nat} {t t' : Nat → Int} {n : Nat} (h : ∀ i, i < n → t' i = t i) (k a : Nat) (han : a ≤ n) (M : zM) : rnM b t' n k a M = rnM b t n k a M := by
  induction k generalizing a M with
  | zero => rfl
  | succ k ih =>
    obtain ⟨h1, h2, h3, h4⟩ := lx_t h han
    have e := nx_t h han M
    have r := (lx_r (t := t) han).2.1
    show (if lxK t' n a = 32 ∧ M 1 3 = 0 then some (0, nxM M t' n a) else if (stpM b (nxM M t' n a)).1 = 0 then rnM b t' n k (lxE t' n a) (zup (stpM b (nxM M t' n a)).2 1 1 0) else some ((stpM b (nxM M t' n a)).1, zup (zup (stpM b (nxM M t' n a)).2 1 1 (stpM b (nxM M t' n a)).1) 1 2 (lxP t' n a : Nat))) = (if lxK t n a = 32 ∧ M 1 3 = 0 then some (0, nxM M t n a) else if (stpM b (nxM M t n a)).1 = 0 then rnM b t n k (lxE t n a) (zup (stpM b (nxM M t n a)).2 1 1 0) else some ((stpM b (nxM M t n a)).1, zup (zup (stpM b (nxM M t n a)).2 1 1 (stpM b (nxM M t n a)).1) 1 2 (lxP t n a : Nat)))
    rw [h3, e, h2, h1, ih (lxE t n a) (by omega)]
/-- the reference as it begins to read -/
def rs0 (M : zM) (n : Int) : zM := zup (zup (zup (zup (zup (zup (zup (zup (zup (zup (zup M 102 2 0) 102 17 n) 102 1 0) 102 15 0) 102 16 (-1)) 102 18 0) 102 33 0) 102 35 0) 102 36 0) 102 38 0) 102 39 0
/-- the lines and knots read are put in their place: i lines, k knots of them -/
def cpy (Mm M' : zM) (L kn i k : Nat) : Prop := (∀ y, y ≠ 102 → (y < 113 ∨ 122 < y) → M' y = Mm y) ∧ (∀ j, M' 102 j = if j = 37 then (kn : Int) else if j = 34 then Mm 102 35 else if j = 32 then (L : Int) else Mm 102 j) ∧ (∀ y, (y = 120 ∨ y = 121 ∨ y = 122) → ∀ j, M' y j = if j < i then Mm y (12 + j) else Mm y j) ∧ (∀ y, (y = 113 ∨ y = 116 ∨ y = 117 ∨ y = 118) → ∀ j, M' y j = if j < k then Mm y (64 + j) else Mm y j) ∧ ∀ y, (y = 114 ∨ y = 115 ∨ y = 119) → ∀ j, M' y j = if j < k then Mm y (64 + j) - 64 else Mm y j
theorem cp_a {A A' B : Nat → Int} {i d : Nat} (h : ∀ j, A j = if j < i then B (d + j) else B j) (h' : ∀ j, A' j = if j = i then A (d + i) else A j) (j : Nat) : A' j = if j < i + 1 then B (d + j) else B j := by
  rw [h']
  by_cases q : j = i
  · rw [if_pos q, h, if_neg (by omega), if_pos (by omega), q]
  · rw [if_neg q, h]
    by_cases q2 : j < i
    · rw [if_pos q2, if_pos (by omega)]
    · rw [if_neg q2, if_neg (by omega)]
theorem cp_s {A A' B : Nat → Int} {i d : Nat} (h : ∀ j, A j = if j < i then B (d + j) - 64 else B j) (h' : ∀ j, A' j = if j = i then A (d + i) - 64 else A j) (j : Nat) : A' j = if j < i + 1 then B (d + j) - 64 else B j := by
  rw [h']
  by_cases q : j = i
  · rw [if_pos q, h, if_neg (by omega), if_pos (by omega), q]
  · rw [if_neg q, h]
    by_cases q2 : j < i
    · rw [if_pos q2, if_pos (by omega)]
    · rw [if_neg q2, if_neg (by omega)]
theorem cpy_l {Mm M M1 M2 M3 : zM} {L kn i : Nat} (h : cpy Mm M L kn i 0) (h1 : M1 = zup M 120 i (M 120 (12 + i))) (h2 : M2 = zup M1 121 i (M1 121 (12 + i))) (h3 : M3 = zup M2 122 i (M2 122 (12 + i))) : cpy Mm M3 L kn (i + 1) 0 := by
  obtain ⟨c1, c2, c3, c4, c5⟩ := h
  have oth : ∀ y, y ≠ 120 → y ≠ 121 → y ≠ 122 → M3 y = M y := fun y y1 y2 y3 => by rw [h3, zup_ne _ _ _ y3, h2, zup_ne _ _ _ y2, h1, zup_ne _ _ _ y1]
  refine ⟨fun y y1 y2 => by rw [oth y (by omega) (by omega) (by omega)]; exact c1 y y1 y2, fun j => by rw [oth _ (by decide) (by decide) (by decide)]; exact c2 j, fun y hy => ?_, fun y hy j => by rw [oth y (by omega) (by omega) (by omega)]; exact c4 y hy j, fun y hy j => by rw [oth y (by omega) (by omega) (by omega)]; exact c5 y hy j⟩
  rcases hy with rfl | rfl | rfl
  · refine cp_a (c3 _ (Or.inl rfl)) (fun j => ?_)
    rw [h3, zup_ne _ _ _ (by decide), h2, zup_ne _ _ _ (by decide), h1, zup_1]
  · refine cp_a (c3 _ (Or.inr (Or.inl rfl))) (fun j => ?_)
    rw [h3, zup_ne _ _ _ (by decide), h2, zup_1, h1, zup_ne _ _ _ (by decide)]
  · refine cp_a (c3 _ (Or.inr (Or.inr rfl))) (fun j => ?_)
    rw [h3, zup_1, h2, zup_ne _ _ _ (by decide), h1, zup_ne _ _ _ (by decide)]
set_option maxHeartbeats 2000000 in
theorem cpy_k {Mm M M1 M2 M3 M4 M5 M6 M7 : zM} {L kn i : Nat} (h : cpy Mm M L kn L i) (h1 : M1 = zup M 113 i (M 113 (64 + i))) (h2 : M2 = zup M1 114 i (M1 114 (64 + i) - 64)) (h3 : M3 = zup M2 115 i (M2 115 (64 + i) - 64)) (h4 : M4 = zup M3 116 i (M3 116 (64 + i))) (h5 : M5 = zup M4 117 i (M4 117 (64 + i))) (h6 : M6 = zup M5 118 i (M5 118 (64 + i))) (h7 : M7 = zup M6 119 i (M6 119 (64 + i) - 64)) : cpy Mm M7 L kn L (i + 1) := by
  obtain ⟨c1, c2, c3, c4, c5⟩ := h
  have n1 : ∀ y, y ≠ 113 → M1 y = M y := fun y hy => by rw [h1, zup_ne _ _ _ hy]
  have n2 : ∀ y, y ≠ 114 → M2 y = M1 y := fun y hy => by rw [h2, zup_ne _ _ _ hy]
  have n3 : ∀ y, y ≠ 115 → M3 y = M2 y := fun y hy => by rw [h3, zup_ne _ _ _ hy]
  have n4 : ∀ y, y ≠ 116 → M4 y = M3 y := fun y hy => by rw [h4, zup_ne _ _ _ hy]
  have n5 : ∀ y, y ≠ 117 → M5 y = M4 y := fun y hy => by rw [h5, zup_ne _ _ _ hy]
  have n6 : ∀ y, y ≠ 118 → M6 y = M5 y := fun y hy => by rw [h6, zup_ne _ _ _ hy]
  have n7 : ∀ y, y ≠ 119 → M7 y = M6 y := fun y hy => by rw [h7, zup_ne _ _ _ hy]
  have oth : ∀ y, y < 113 ∨ 119 < y → M7 y = M y := fun y hy => by rw [n7 y (by omega), n6 y (by omega), n5 y (by omega), n4 y (by omega), n3 y (by omega), n2 y (by omega), n1 y (by omega)]
  refine ⟨fun y y1 y2 => by rw [oth y (by omega)]; exact c1 y y1 y2, fun j => by rw [oth _ (by decide)]; exact c2 j, fun y hy j => by rw [oth y (by omega)]; exact c3 y hy j, fun y hy => ?_, fun y hy => ?_⟩
  · rcases hy with rfl | rfl | rfl | rfl
    · refine cp_a (c4 _ (Or.inl rfl)) (fun j => ?_)
      rw [n7 _ (by decide), n6 _ (by decide), n5 _ (by decide), n4 _ (by decide), n3 _ (by decide), n2 _ (by decide), h1, zup_1]
    · refine cp_a (c4 _ (Or.inr (Or.inl rfl))) (fun j => ?_)
      rw [n7 _ (by decide), n6 _ (by decide), n5 _ (by decide), h4, zup_1, n3 _ (by decide), n2 _ (by decide), n1 _ (by decide)]
    · refine cp_a (c4 _ (Or.inr (Or.inr (Or.inl rfl)))) (fun j => ?_)
      rw [n7 _ (by decide), n6 _ (by decide), h5, zup_1, n4 _ (by decide), n3 _ (by decide), n2 _ (by decide), n1 _ (by decide)]
    · refine cp_a (c4 _ (Or.inr (Or.inr (Or.inr rfl)))) (fun j => ?_)
      rw [n7 _ (by decide), h6, zup_1, n5 _ (by decide), n4 _ (by decide), n3 _ (by decide), n2 _ (by decide), n1 _ (by decide)]
  · rcases hy with rfl | rfl | rfl
    · refine cp_s (c5 _ (Or.inl rfl)) (fun j => ?_)
      rw [n7 _ (by decide), n6 _ (by decide), n5 _ (by decide), n4 _ (by decide), n3 _ (by decide), h2, zup_1, n1 _ (by decide)]
    · refine cp_s (c5 _ (Or.inr (Or.inl rfl))) (fun j => ?_)
      rw [n7 _ (by decide), n6 _ (by decide), n5 _ (by decide), n4 _ (by decide), h3, zup_1, n2 _ (by decide), n1 _ (by decide)]
    · refine cp_s (c5 _ (Or.inr (Or.inr rfl))) (fun j => ?_)
      rw [h7, zup_1, n6 _ (by decide), n5 _ (by decide), n4 _ (by decide), n3 _ (by decide), n2 _ (by decide), n1 _ (by decide)]
/-- all is read, nothing put in its place yet -/
def enS (b : Nat) (t : Nat → Int) (n : Nat) (R : Int × zM) (M0 Mm V : zM) (k a L kn o : Nat) : Prop := tkS b t n R Mm V k a ∧ lS b 0 V Mm L kn o ∧ frP M0 Mm ∧ Mm 102 19 = 0
set_option maxHeartbeats 4000000 in
theorem r_rules {E : zE} {M V : zM} {Q : Int → zM → Prop} {b : Nat} {t : Nat → Int} {n : Nat} {R : Int × zM} (hb : b = 6 ∨ b = 13) (hn : (n : Int) ≤ M 102 1) (hts : M 102 1 ≤ 500) (ht : M 103 = t) (hB : ∀ i, 0 ≤ t i ∧ t i ≤ 255) (hw : rWds M) (hV : rnM b t n 501 0 V = some R) (hv : V 1 3 = 0 ∧ pInv b V ∧ V b 8 = 0 ∧ V b 10 = 0 ∧ V b 11 = 0 ∧ V b 9 = 0 ∧ V b 7 = 0)
    (h0 : ∀ M', fltS R M' → frQ (rs0 M n) M' → Q (-1) M')
    (h1 : ∀ (Mm V' M' : zM) (k a L kn o : Nat), enS b t n R (rs0 M n) Mm V' k a L kn o → cpy Mm M' L kn L kn → Q ((L : Int) + Mm 102 36) M') : zP E mX12_rules [.inr (.inr 102), .inl (n : Int)] M Q := by
  obtain ⟨v1, v2, v3, v4, v5, v6, v7⟩ := hv
  have zn : zR (n : Int) := by unfold zR; omega
  refine vcX12_rules _ (fun m M' => ∃ (V' : zM) (k a L kn o : Nat), m = 200 + k ∧ tkS b t n R M' V' k a ∧ lS b 0 V' M' L kn o ∧ frP (rs0 M n) M')
    (fun m l M' => ∃ (Mm V' : zM) (k a L kn o i : Nat), enS b t n R (rs0 M n) Mm V' k a L kn o ∧ l = (i : Int) ∧ i ≤ L ∧ m = 199 - i ∧ cpy Mm M' L kn i 0)
    (fun m l M' => ∃ (Mm V' : zM) (k a L kn o i : Nat), enS b t n R (rs0 M n) Mm V' k a L kn o ∧ l = (i : Int) ∧ i ≤ kn ∧ m = 100 - i ∧ cpy Mm M' L kn L i) ?_ ?_ ?_ ?_
  · intro M1 m1
    have et : M1 102 1 = M 102 1 := by rw [m1, zup_q, if_neg (by decide)]
    rw [et]
    refine ⟨zn, fun q => absurd q (by omega), fun _ => ⟨⟨zn, by unfold zR; omega⟩, fun _ => ?_, fun q => absurd q (by omega)⟩⟩
    intro M2 m2 M3 m3 M4 m4 M5 m5 M6 m6 M7 m7 M8 m8 M9 m9 M10 m10 M11 m11
    have eM : M11 = rs0 M n := by rw [m11, m10, m9, m8, m7, m6, m5, m4, m3, m2, m1]; rfl
    have e0 : M11 102 17 = (n : Int) ∧ M11 102 18 = 0 ∧ M11 102 33 = 0 ∧ M11 102 35 = 0 ∧ M11 102 36 = 0 ∧ M11 102 38 = 0 ∧ M11 102 39 = 0 := by
      rw [eM]
      unfold rs0
      refine ⟨?_, ?_, ?_, ?_, ?_, ?_, ?_⟩ <;> simp [zup_q]
    have eo : ∀ y, y ≠ 102 → M11 y = M y := fun y hy => by
      rw [eM]
      unfold rs0
      rw [zup_ne _ _ _ hy, zup_ne _ _ _ hy, zup_ne _ _ _ hy, zup_ne _ _ _ hy, zup_ne _ _ _ hy, zup_ne _ _ _ hy, zup_ne _ _ _ hy, zup_ne _ _ _ hy, zup_ne _ _ _ hy, zup_ne _ _ _ hy, zup_ne _ _ _ hy]
    have tq : txQ M11 t n := ⟨e0.1, by omega, by rw [eo _ (by decide)]; exact ht, hB, wds_e (eo _ (by decide)) hw⟩
    have ls : lS b 0 V M11 0 0 0 := ⟨v1, v2, ⟨⟨e0.2.2.1, v3⟩, ⟨by rw [v4]; exact e0.2.2.2.1, by rw [v5]; exact e0.2.2.2.2.1⟩, by omega, fun l hl => by omega, fun _ => rfl, fun l' hl' => by omega⟩, ⟨e0.2.2.2.2.2.1, v6⟩, ⟨e0.2.2.2.2.2.2, v7⟩, fun j hj => by omega, by omega, by omega⟩
    refine r_takeS (k := 501) (a := 0) ⟨tq, by omega, e0.2.1, hV⟩ (fun M13 q1 q2 q3 => ?_)
    exact ⟨200 + 501, V, 501, 0, 0, 0, 0, rfl, q1, lS_tk hb ls ⟨q2, q3⟩, by rw [← eM]; exact tkF_pr ⟨q2, q3⟩⟩
  · rintro m M' ⟨V', k, a, L, kn, o, rfl, T, l, F⟩
    obtain ⟨r1, -, -, -⟩ := tkS_r T
    obtain ⟨l1, l2, ⟨⟨a1, a2⟩, -, a5, -⟩, ⟨l4, l5⟩, -⟩ := id l
    refine ⟨by unfold zR; omega, fun q M14 m14 M15 m15 M16 m16 => ?_, fun q => ?_⟩
    · refine ⟨199 - 0, by omega, M', V', k, a, L, kn, o, 0, ⟨T, l, F, q⟩, rfl, by omega, rfl, fun y y1 _ => by rw [m16, zup_ne _ _ _ y1, m15, zup_ne _ _ _ y1, m14, zup_ne _ _ _ y1], fun j => ?_, fun y hy j => ?_, fun y hy j => ?_, fun y hy j => ?_⟩
      · have z1 : M14 102 35 = M' 102 35 := by rw [m14, zup_q, if_neg (by decide)]
        have z2 : M15 102 38 = M' 102 38 := by rw [m15, zup_q, if_neg (by decide), m14, zup_q, if_neg (by decide)]
        rw [m16, zup_1, z2, l4, m15, zup_1, z1, m14, zup_1, a1]
      · rw [if_neg (by omega), m16, zup_ne _ _ _ (by omega), m15, zup_ne _ _ _ (by omega), m14, zup_ne _ _ _ (by omega)]
      · rw [if_neg (by omega), m16, zup_ne _ _ _ (by omega), m15, zup_ne _ _ _ (by omega), m14, zup_ne _ _ _ (by omega)]
      · rw [if_neg (by omega), m16, zup_ne _ _ _ (by omega), m15, zup_ne _ _ _ (by omega), m14, zup_ne _ _ _ (by omega)]
    · refine r_line hb T l q F ⟨fun M2 V2 k2 a2 L2 kn2 o2 q1 q2 q3 q4 => ⟨zRd rfl, fun _ => ⟨200 + k2, by omega, V2, k2, a2, L2, kn2, o2, rfl, q1, q3, q4⟩, fun q5 => absurd q5 (by decide)⟩, fun M2 q1 q2 => ⟨zRd rfl, fun q5 => absurd rfl q5, fun _ => h0 M2 q1 q2⟩⟩
  · rintro m l M' ⟨Mm, V', k, a, L, kn, o, i, en, rfl, hi, rfl, cp⟩
    have a5 : L ≤ 12 := en.2.1.2.2.1.2.2.1
    have el : M' 102 32 = (L : Int) := by rw [cp.2.1, if_neg (by decide), if_neg (by decide), if_pos rfl]
    have ei : (12 + (i : Int)).toNat = 12 + i := by omega
    rw [el, ei, Int.toNat_natCast]
    refine ⟨⟨by unfold zR; omega, by unfold zR; omega⟩, fun q => ?_, fun q => ⟨by omega, by omega, fun M19 m19 => ⟨by omega, by omega, fun M20 m20 => ⟨by omega, by omega, fun M21 m21 => ?_⟩⟩⟩⟩
    · have : i = L := by omega
      subst this
      exact ⟨100 - 0, by omega, Mm, V', k, a, i, kn, o, 0, en, rfl, by omega, rfl, cp⟩
    · exact ⟨199 - (i + 1), by omega, Mm, V', k, a, L, kn, o, i + 1, en, by omega, by omega, rfl, cpy_l cp m19 m20 m21⟩
  · rintro m l M' ⟨Mm, V', k, a, L, kn, o, i, en, rfl, hi, rfl, cp⟩
    have k64 : kn ≤ 64 := en.2.1.2.2.2.2.2.2.1
    have el : M' 102 32 = (L : Int) := by rw [cp.2.1, if_neg (by decide), if_neg (by decide), if_pos rfl]
    have ek : M' 102 37 = (kn : Int) := by rw [cp.2.1, if_pos rfl]
    have et : M' 102 36 = Mm 102 36 := by rw [cp.2.1, if_neg (by decide), if_neg (by decide), if_neg (by decide)]
    have t01 : Mm 102 36 = 0 ∨ Mm 102 36 = 1 := by
      rw [en.2.1.2.2.1.2.1.2]
      exact en.2.1.2.1.2.2.2.2.1
    have ei : (64 + (i : Int)).toNat = 64 + i := by omega
    rw [ek, el, et, ei, Int.toNat_natCast]
    refine ⟨⟨by unfold zR; omega, by unfold zR; omega⟩, fun q => ⟨by unfold zR; omega, fun q2 => ?_, fun q2 => ?_⟩, fun q => ⟨by omega, by omega, fun M22 m22 => ⟨by omega, by omega, fun M23 m23 => ⟨by omega, by omega, fun M24 m24 => ⟨by omega, by omega, fun M25 m25 => ⟨by omega, by omega, fun M26 m26 => ⟨by omega, by omega, fun M27 m27 => ⟨by omega, by omega, fun M28 m28 => ?_⟩⟩⟩⟩⟩⟩⟩⟩
    · have : i = kn := by omega
      subst this
      have := h1 Mm V' M' k a L i o en cp
      rw [q2] at this
      exact this
    · have : i = kn := by omega
      subst this
      have := h1 Mm V' M' k a L i o en cp
      rw [t01.resolve_left q2] at this
      exact this
    · exact ⟨100 - (i + 1), by omega, Mm, V', k, a, L, kn, o, i + 1, en, by omega, by omega, rfl, cpy_k cp m22 m23 m24 m25 m26 m27 m28⟩
