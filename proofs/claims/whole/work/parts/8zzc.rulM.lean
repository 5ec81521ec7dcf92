/-! the reader of rules: what a token leaves, in both; the parts that every case shares -/
/-- the class's cells behind one good token -/
def sxM (b : Nat) (t : Nat → Int) (n : Nat) (V : zM) (a : Nat) : zM := zup (stpM b (nxM V t n a)).2 1 1 0
/-- what the reference's reading may change -/
def dPr (x j : Nat) : Bool := (x == 102 && [17, 18, 19, 20, 21, 38, 39, 42, 44, 46, 47, 48, 49, 33, 35, 36].contains j) || ((x == 113 || x == 114 || x == 115 || x == 116 || x == 117 || x == 118 || x == 119) && decide (64 ≤ j)) || ((x == 120 || x == 121 || x == 122) && decide (12 ≤ j)) || x == 123 || x == 124 || x == 125 || x == 126
theorem dPr_k {x : Nat} (h : x = 113 ∨ x = 114 ∨ x = 115 ∨ x = 116 ∨ x = 117 ∨ x = 118 ∨ x = 119) (i : Nat) : dPr x (64 + i) = true := by
  unfold dPr
  have : (64 ≤ 64 + i) := by omega
  rcases h with rfl | rfl | rfl | rfl | rfl | rfl | rfl <;> simp
theorem dPr_l {x : Nat} (h : x = 120 ∨ x = 121 ∨ x = 122) (i : Nat) : dPr x (12 + i) = true := by
  unfold dPr
  have : (12 ≤ 12 + i) := by omega
  rcases h with rfl | rfl | rfl <;> simp
theorem dPr_w {x : Nat} (h : x = 123 ∨ x = 124 ∨ x = 125 ∨ x = 126) (i : Nat) : dPr x i = true := by
  unfold dPr
  rcases h with rfl | rfl | rfl | rfl <;> simp
def frP (M M' : zM) : Prop := ∀ x j, dPr x j = false → M' x j = M x j
theorem bn_pr {M M' : zM} (h : ∀ x j, dBn x j = false → M' x j = M x j) : frP M M' := fun x j hx => h x j (by
  cases hd : dBn x j with
  | false => rfl
  | true =>
    exfalso
    unfold dBn at hd
    simp only [Bool.or_eq_true, Bool.and_eq_true, beq_iff_eq, decide_eq_true_eq] at hd
    rcases hd with (⟨rfl, h2⟩ | ⟨h2, h3⟩) | rfl
    · have : j = 42 ∨ j = 44 ∨ j = 39 := by simpa using h2
      rcases this with rfl | rfl | rfl <;> exact absurd hx (by decide)
    · obtain ⟨i, rfl⟩ : ∃ i, j = 64 + i := ⟨j - 64, by omega⟩
      rw [dPr_k (by omega)] at hx
      cases hx
    · rw [dPr_w (Or.inr (Or.inr (Or.inl rfl)))] at hx
      cases hx)
/-- with a fault told -/
def frQ (M M' : zM) : Prop := ∀ x j, dPr x j = false → ¬ (x = 102 ∧ (j = 15 ∨ j = 16)) → M' x j = M x j
theorem frP_q {M M1 M2 : zM} (h1 : frP M M1) (h2 : frQ M1 M2) : frQ M M2 := fun x j hx hn => by rw [h2 x j hx hn, h1 x j hx]
theorem frP_t {M M1 M2 : zM} (h1 : frP M M1) (h2 : frP M1 M2) : frP M M2 := fxt h1 h2
/-- what leaves the state of a line as it is, a new knot kn aside -/
def dG (kn x j : Nat) : Bool := (x == 102 && !([39, 44, 42].contains j)) || x == 126 || ((x == 113 || x == 114 || x == 115 || x == 116 || x == 117 || x == 118) && j == 64 + kn)
theorem dG_k {x : Nat} (kn : Nat) (h : x = 113 ∨ x = 114 ∨ x = 115 ∨ x = 116 ∨ x = 117 ∨ x = 118) : dG kn x (64 + kn) = true := by
  unfold dG
  rcases h with rfl | rfl | rfl | rfl | rfl | rfl <;> simp
theorem mS_fr {M M' : zM} {kn : Nat} (h : ∀ x j, dG kn x j = false → M' x j = M x j) : mSame M M' kn := by
  have z : ∀ a x : Nat, a < kn → (x = 113 ∨ x = 114 ∨ x = 115 ∨ x = 116 ∨ x = 117 ∨ x = 118) → dG kn x (64 + a) = false := fun a x ha hx => by
    have ne : (64 + a == 64 + kn) = false := beq_eq_false_iff_ne.mpr (by omega)
    unfold dG
    rw [ne]
    rcases hx with rfl | rfl | rfl | rfl | rfl | rfl <;> rfl
  exact ⟨⟨h _ _ rfl, h _ _ rfl, h _ _ rfl⟩, ⟨funext fun j => h _ _ rfl, funext fun j => h _ _ rfl, funext fun j => h _ _ rfl, funext fun j => h _ _ rfl⟩, fun a ha => ⟨h _ _ (z a _ ha (by decide)), h _ _ (z a _ ha (by decide)), h _ _ (z a _ ha (by decide)), h _ _ (z a _ ha (by decide)), h _ _ (z a _ ha (by decide)), h _ _ (z a _ ha (by decide))⟩⟩
theorem mS_gw (M : zM) (kn : Nat) (k v : Int) : mSame M (gwM M kn k v) kn := mS_fr (by
  unfold gwM
  exact fz_up (dG_k kn (by decide)) (fz_up (dG_k kn (by decide)) (fz_up (dG_k kn (by decide)) (fz_up (dG_k kn (by decide)) (fz_up rfl (fun _ _ _ => rfl))))))
theorem vS_r (f : Nat) (V : zM) : vSame f V V := ⟨rfl, rfl, rfl, rfl, rfl, rfl⟩
theorem gw_pr (M : zM) (kn : Nat) (k v : Int) : frP M (gwM M kn k v) := by
  unfold gwM
  exact fz_up (dPr_k (by decide) _) (fz_up (dPr_k (by decide) _) (fz_up (dPr_k (by decide) _) (fz_up (dPr_k (by decide) _) (fz_up rfl (fun _ _ _ => rfl)))))
theorem wf_pr (M : zM) (w : Nat) (k v : Int) : frP M (wfM M w k v) := by
  unfold wfM
  exact fz_up rfl (fz_up (dPr_w (by decide) _) (fz_up (dPr_w (by decide) _) (fun _ _ _ => rfl)))
theorem do_pr (M : zM) (o h : Nat) (v : Int) : frP M (doM M o h v) := by
  unfold doM
  exact fz_up rfl (fz_up (dPr_w (by decide) _) (fz_up rfl (fz_up (dPr_k (by decide) _) (fun _ _ _ => rfl))))
theorem wg_pr (M : zM) (k : Int) : frQ M (wgM M k) := fun x j hx hn => by
  unfold wgM
  rw [zup_q, if_neg (by omega), zup_q, if_neg (by omega)]
/-- the class's cells of the lines that are done, and the level of this one -/
def kpL (b : Nat) (V V' : zM) : Prop := V' (b + 4) = V (b + 4) ∧ V' (b + 5) = V (b + 5) ∧ V' b 8 = V b 8 ∧ V' b 10 = V b 10 ∧ V' b 11 = V b 11 ∧ V' 1 5 = V 1 5
def dKl (b x j : Nat) : Bool := !(x == b + 4 || x == b + 5 || (x == b && (j == 8 || j == 10 || j == 11)) || (x == 1 && j == 5))
theorem kp_fr {b : Nat} {V V' : zM} (h : ∀ x j, dKl b x j = false → V' x j = V x j) : kpL b V V' := by
  refine ⟨funext fun j => h _ _ ?_, funext fun j => h _ _ ?_, h _ _ ?_, h _ _ ?_, h _ _ ?_, h _ _ ?_⟩ <;> (unfold dKl; simp)
def okE (b : Nat) (d : Nat → Nat → Bool) : Prop := (d 1 3 = true ∧ d 1 7 = true ∧ d 1 8 = true ∧ d 1 10 = true ∧ d 1 11 = true ∧ d 1 12 = true ∧ d 1 1 = true) ∧ (∀ j, d 4 j = true) ∧ (∀ j, d 5 j = true) ∧ (∀ j, d (b + 1) j = true ∧ d (b + 2) j = true ∧ d (b + 3) j = true) ∧ d b 7 = true ∧ d b 9 = true ∧ ∀ j, d 2 j = true
theorem dKl_ok {b : Nat} (hb : b = 6 ∨ b = 13) : okE b (dKl b) := by
  rcases hb with rfl | rfl <;> exact ⟨⟨rfl, rfl, rfl, rfl, rfl, rfl, rfl⟩, fun _ => rfl, fun _ => rfl, fun _ => ⟨rfl, rfl, rfl⟩, rfl, rfl, fun _ => rfl⟩
theorem fy_aw {b : Nat} {d : Nat → Nat → Bool} (hD : okE b d) {M M0 : zM} {t : Int} (h : ∀ x j, d x j = false → M x j = M0 x j) : ∀ x j, d x j = false → awM M t x j = M0 x j := by
  unfold awM
  split
  · exact fz_up hD.1.2.1 (fz_up (hD.2.1 _) h)
  · exact h
theorem fy_wr {b : Nat} {d : Nat → Nat → Bool} (hD : okE b d) {M M0 : zM} {op kd nm : Int} (h : ∀ x j, d x j = false → M x j = M0 x j) : ∀ x j, d x j = false → wrM M b op kd nm x j = M0 x j := by
  obtain ⟨d1, d2, d3⟩ := hD.2.2.2.1 (M b 7).toNat
  unfold wrM
  split
  · exact fz_up hD.2.2.2.2.1 (fz_up d3 (fz_up d2 (fz_up d1 h)))
  · exact h
theorem fy_ck {b : Nat} {d : Nat → Nat → Bool} (hD : okE b d) {M M0 : zM} (h : ∀ x j, d x j = false → M x j = M0 x j) : ∀ x j, d x j = false → ckM M b x j = M0 x j := fz_up hD.2.2.2.2.2.1 h
theorem fy_st {b : Nat} {d : Nat → Nat → Bool} (hD : okE b d) {M0 : zM} {least : Int} (k : Nat) (M : zM) (h : ∀ x j, d x j = false → M x j = M0 x j) : ∀ x j, d x j = false → stlM b least k M x j = M0 x j := by
  induction k generalizing M with
  | zero => exact h
  | succ k ih =>
    unfold stlM
    split
    · exact ih _ (fy_wr hD (fz_up hD.1.2.1 h))
    · exact h
theorem fy_A {b : Nat} {d : Nat → Nat → Bool} (hD : okE b d) {M M0 : zM} (r : ∀ x j, d x j = false → M x j = M0 x j) : ∀ x j, d x j = false → (stpA b M).2 x j = M0 x j := by
  obtain ⟨⟨d1, d3, d4, d5, d6, d7, d8⟩, dw, dc, db, ds, dk, dt⟩ := id hD
  unfold stpA
  repeat' split
  · exact fy_aw hD (fz_up d5 (fz_up (dc _) (fz_up d4 r)))
  · exact r
  · exact fz_up d1 (fy_wr hD r)
  · exact fy_ck hD (fz_up d1 (fy_wr hD r))
  · exact fy_ck hD (fz_up d1 (fz_up d6 r))
  · exact fy_ck hD (fy_aw hD (fz_up d5 r))
  · exact fy_ck hD (fy_aw hD r)
  · exact r
theorem fy_W {b : Nat} {d : Nat → Nat → Bool} (hD : okE b d) {M M0 : zM} (r : ∀ x j, d x j = false → M x j = M0 x j) : ∀ x j, d x j = false → (stpW b M).2 x j = M0 x j := by
  obtain ⟨⟨d1, d3, d4, d5, d6, d7, d8⟩, dw, dc, db, ds, dk, dt⟩ := id hD
  unfold stpW
  split
  · exact fz_up d1 r
  · split
    · exact fz_up d7 (fz_up d1 r)
    · split
      · exact fz_up d1 r
      · split
        · exact fy_wr hD (fz_up d1 r)
        · exact fz_up d1 r
theorem fy_B {b : Nat} {d : Nat → Nat → Bool} (hD : okE b d) {M M0 : zM} (h17 : ¬ (M 2 4 = 17 ∧ M 1 8 = 0)) (r : ∀ x j, d x j = false → M x j = M0 x j) : ∀ x j, d x j = false → (stpB b M).2 x j = M0 x j := by
  obtain ⟨⟨d1, d3, d4, d5, d6, d7, d8⟩, dw, dc, db, ds, dk, dt⟩ := id hD
  unfold stpB
  rw [if_neg h17]
  split
  · exact fz_up d4 (fz_up d3 (fy_st hD _ _ r))
  · split
    · exact r
    · refine fy_ck hD ?_
      unfold sgM
      refine fz_up d1 (fz_up d5 (fy_aw hD (fy_st hD _ _ ?_)))
      split
      · exact r
      · exact fz_up (dc _) r
theorem fy_nx {d : Nat → Nat → Bool} {M : zM} {t : Nat → Int} {n a : Nat} (h : ∀ j, d 2 j = true) : ∀ x j, d x j = false → nxM M t n a x j = M x j := fun x j hx => by
  by_cases q : x = 2
  · rw [q, h j] at hx
    cases hx
  · rw [(nxM_r M t n a).2.2.2.1 x q]
theorem stp_4 {b : Nat} {M : zM} (hd : M 1 3 = 4) : stpM b M = stpA b M := by
  unfold stpM
  rw [if_neg (by omega), if_neg (by omega), if_neg (by omega), if_neg (by omega), if_pos hd]
theorem stp_5 {b : Nat} {M : zM} (hd : M 1 3 = 5) : stpM b M = stpB b M := by
  unfold stpM
  rw [if_neg (by omega), if_neg (by omega), if_neg (by omega), if_neg (by omega), if_neg (by omega), if_pos hd]
theorem stp_6 {b : Nat} {M : zM} (hd : 6 ≤ M 1 3) : stpM b M = stpW b M := by
  unfold stpM
  rw [if_neg (by omega), if_neg (by omega), if_neg (by omega), if_neg (by omega), if_neg (by omega), if_neg (by omega)]
/-- within a line, short of its end -/
theorem sx_keep {b : Nat} {t : Nat → Int} {n a : Nat} {V : zM} (hb : b = 6 ∨ b = 13) (hd : 4 ≤ V 1 3) (h17 : ¬ (V 1 3 = 5 ∧ lxK t n a = 17 ∧ V 1 8 = 0)) : kpL b V (sxM b t n V a) := by
  have hD := dKl_ok hb
  obtain ⟨e1, e2, e3, e4, e5⟩ := nxM_r V t n a
  have er : nxM V t n a 1 = V 1 := e4 _ (by decide)
  have r := fy_nx (d := dKl b) (M := V) (t := t) (n := n) (a := a) hD.2.2.2.2.2.2
  refine kp_fr ?_
  unfold sxM
  refine fz_up hD.1.2.2.2.2.2.2 ?_
  by_cases q : V 1 3 = 4
  · rw [stp_4 (by rw [er]; exact q)]
    exact fy_A hD r
  · by_cases q2 : V 1 3 = 5
    · rw [stp_5 (by rw [er]; exact q2)]
      exact fy_B hD (fun q3 => h17 ⟨q2, by rw [← e2]; exact q3.1, by rw [← er]; exact q3.2⟩) r
    · rw [stp_6 (by rw [er]; omega)]
      exact fy_W hD r
theorem sx_inv {b : Nat} {t : Nat → Int} {n a : Nat} {V : zM} (hb : b = 6 ∨ b = 13) (hp : pInv b V) (han : a ≤ n) (hf : (stpM b (nxM V t n a)).1 = 0) : pInv b (sxM b t n V a) := by
  obtain ⟨-, -, -, e4, -⟩ := nxM_r V t n a
  have p1 : pInv b (nxM V t n a) := pInv_c hp (e4 b (by omega)) (fun j _ _ => by rw [e4 1 (by decide)]) (e4 _ (by decide)) (e4 _ (by decide))
  have p2 := inv_step hb p1 (nx_tk han) hf
  unfold sxM
  exact pInv_c p2 (by rw [zup_ne _ _ _ (by omega)]) (fun j j1 _ => by rw [zup_q, if_neg (fun q => j1 q.2)]) (by rw [zup_ne _ _ _ (by decide)]) (by rw [zup_ne _ _ _ (by decide)])
theorem agr_le {W W' : zM} {f o o' : Nat} (h : agr W W' f o) (ho : o' ≤ o) : agr W W' f o' := fun j hj => h j (by omega)
/-- the lines that are done stay -/
theorem lI_g {b : Nat} {V M V' M' : zM} {L o : Nat} (hb : b = 6 ∨ b = 13) (h : lI b V M L o) (g : agr (shM V M) (shM V' M') b o) (v : kpL b V V') (m : (M' 102 33 = M 102 33 ∧ M' 102 35 = M 102 35 ∧ M' 102 36 = M 102 36) ∧ M' 120 = M 120 ∧ M' 121 = M 121 ∧ M' 122 = M 122) : lI b V' M' L o := by
  obtain ⟨⟨a1, a2⟩, ⟨a3, a4⟩, a5, a6, a7, a8⟩ := h
  obtain ⟨v1, v2, v3, v4, v5, v6⟩ := v
  obtain ⟨⟨m1, m2, m3⟩, m4, m5, m6⟩ := m
  refine ⟨⟨by rw [m1]; exact a1, by rw [v3]; exact a2⟩, ⟨by rw [m2, v4]; exact a3, by rw [m3, v5]; exact a4⟩, a5, bkL_g a6 (Nat.le_refl _) g (fun l hl => ⟨?_, ?_, ?_, ?_, ?_⟩), a7, fun l' hl' => by rw [v2]; exact a8 l' hl'⟩
  · rw [sh_c (by omega), sh_c (by omega), v1]
  · rw [sh_c (by omega), sh_c (by omega), v2]
  · rw [sh_l (Or.inl rfl), sh_l (Or.inl rfl), m4]
  · rw [sh_l (Or.inr (Or.inl rfl)), sh_l (Or.inr (Or.inl rfl)), m5]
  · rw [sh_l (Or.inr (Or.inr rfl)), sh_l (Or.inr (Or.inr rfl)), m6]
def mKp (M M' : zM) : Prop := (M' 102 33 = M 102 33 ∧ M' 102 35 = M 102 35 ∧ M' 102 36 = M 102 36) ∧ M' 120 = M 120 ∧ M' 121 = M 121 ∧ M' 122 = M 122
theorem xI_mk {b : Nat} {V M V' M' : zM} {o0 c w kn vl L c' w' kn' vl' : Nat} {s s' : List Nat} (hb : b = 6 ∨ b = 13) (h : xI b V M o0 c w kn vl L s) (he : eInv b V' M' o0 c' w' kn' vl' s') (ha : agr (shM V M) (shM V' M') b (o0 + c)) (hp : pInv b V')
    (hk : M' 102 38 = (kn' : Int) ∧ V' b 9 = (kn' : Int))
    (ho : M' 102 46 = V' 1 8 ∧ (∀ i : Nat, (i : Int) < V' 1 8 → M' 126 i = V' 5 i) ∧ M' 102 47 = V' 5 (V' 1 8).toNat ∧ M' 102 49 = V' 1 10)
    (hd : (vl' = 0 ∧ M' 102 48 = 1 ∧ V' 1 3 = 4) ∨ (vl' = 1 ∧ M' 102 48 = 0 ∧ V' 1 3 = 5))
    (v : kpL b V V') (m : mKp M M') : xI b V' M' o0 c' w' kn' vl' L s' := by
  obtain ⟨x1, x2, x3, x4, x5, x6, x7, y1, y2, y3⟩ := h
  have lg := lI_g hb x6 (agr_le ha (Nat.le_add_right _ _)) v m
  obtain ⟨v1, v2, v3, v4, v5, v6⟩ := v
  obtain ⟨⟨m1, m2, m3⟩, m4, m5, m6⟩ := m
  exact ⟨he, hp, hk, ho, hd, lg, x7, by rw [m5]; exact y1, by rw [m4, v6]; exact y2, by rw [v6]; exact y3⟩
/-- the token's cells aside -/
def tkF (M M' : zM) : Prop := (∀ x, x ≠ 102 → M' x = M x) ∧ (∀ j, j ≠ 18 → j ≠ 19 → j ≠ 20 → j ≠ 21 → M' 102 j = M 102 j)
theorem tkF_pr {M M' : zM} (h : tkF M M') : frP M M' := fun x j hx => by
  by_cases q : x = 102
  · rw [q] at hx ⊢
    exact h.2 j (fun q2 => by rw [q2] at hx; exact absurd hx (by decide)) (fun q2 => by rw [q2] at hx; exact absurd hx (by decide)) (fun q2 => by rw [q2] at hx; exact absurd hx (by decide)) (fun q2 => by rw [q2] at hx; exact absurd hx (by decide))
  · rw [h.1 x q]
theorem tkF_kp {M M' : zM} (h : tkF M M') : mKp M M' := ⟨⟨h.2 _ (by decide) (by decide) (by decide) (by decide), h.2 _ (by decide) (by decide) (by decide) (by decide), h.2 _ (by decide) (by decide) (by decide) (by decide)⟩, h.1 _ (by decide), h.1 _ (by decide), h.1 _ (by decide)⟩
theorem tkF_mS {M M' : zM} (h : tkF M M') (kn : Nat) : mSame M M' kn := ⟨⟨h.2 _ (by decide) (by decide) (by decide) (by decide), h.2 _ (by decide) (by decide) (by decide) (by decide), h.2 _ (by decide) (by decide) (by decide) (by decide)⟩, ⟨h.1 _ (by decide), h.1 _ (by decide), h.1 _ (by decide), h.1 _ (by decide)⟩, fun a ha => by rw [h.1 _ (by decide), h.1 _ (by decide), h.1 _ (by decide), h.1 _ (by decide), h.1 _ (by decide), h.1 _ (by decide)]; exact ⟨rfl, rfl, rfl, rfl, rfl, rfl⟩⟩
theorem xI_tk {b : Nat} {V M M' : zM} {o0 c w kn vl L : Nat} {s : List Nat} (hb : b = 6 ∨ b = 13) (h : xI b V M o0 c w kn vl L s) (f : tkF M M') : xI b V M' o0 c w kn vl L s := by
  obtain ⟨x1, x2, x3, x4, x5, x6, x7, y1, y2, y3⟩ := id h
  obtain ⟨g1, g2⟩ := e_g hb x1 ⟨Nat.le_refl _, x1.2.1⟩ (tkF_mS f kn) (vS_r b V)
  have f2 : ∀ j, j ≠ 18 → j ≠ 19 → j ≠ 20 → j ≠ 21 → M' 102 j = M 102 j := f.2
  refine xI_mk hb h g1 g2 x2 ⟨by rw [f2 _ (by decide) (by decide) (by decide) (by decide)]; exact x3.1, x3.2⟩ ⟨by rw [f2 _ (by decide) (by decide) (by decide) (by decide)]; exact x4.1, fun i hi => by rw [f.1 _ (by decide)]; exact x4.2.1 i hi, by rw [f2 _ (by decide) (by decide) (by decide) (by decide)]; exact x4.2.2.1, by rw [f2 _ (by decide) (by decide) (by decide) (by decide)]; exact x4.2.2.2⟩ ?_ ⟨rfl, rfl, rfl, rfl, rfl, rfl⟩ (tkF_kp f)
  rw [f2 48 (by decide) (by decide) (by decide) (by decide)]
  exact x5
