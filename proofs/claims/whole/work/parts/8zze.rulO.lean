/-! the reader of rules: a plain number; the cells of a window, token by token -/
theorem kp_t {b : Nat} {V V1 V2 : zM} (h : kpL b V V1) (g : kpL b V1 V2) : kpL b V V2 := ⟨g.1.trans h.1, g.2.1.trans h.2.1, g.2.2.1.trans h.2.2.1, g.2.2.2.1.trans h.2.2.2.1, g.2.2.2.2.1.trans h.2.2.2.2.1, g.2.2.2.2.2.trans h.2.2.2.2.2⟩
/-- what reading a window leaves, a new knot kn aside -/
def dWn (kn x j : Nat) : Bool := (x == 102 && [18, 19, 20, 21, 38, 48].contains j) || ((x == 113 || x == 114 || x == 115 || x == 116 || x == 117 || x == 118) && j == 64 + kn)
theorem dWn_k {x : Nat} (kn : Nat) (h : x = 113 ∨ x = 114 ∨ x = 115 ∨ x = 116 ∨ x = 117 ∨ x = 118) : dWn kn x (64 + kn) = true := by
  unfold dWn
  rcases h with rfl | rfl | rfl | rfl | rfl | rfl <;> simp
theorem wn_sub {kn : Nat} {d : Nat → Nat → Bool} (h1 : d 102 18 = true ∧ d 102 19 = true ∧ d 102 20 = true ∧ d 102 21 = true ∧ d 102 38 = true ∧ d 102 48 = true) (h2 : ∀ x, (x = 113 ∨ x = 114 ∨ x = 115 ∨ x = 116 ∨ x = 117 ∨ x = 118) → d x (64 + kn) = true) (x j : Nat) (hx : d x j = false) : dWn kn x j = false := by
  cases hd : dWn kn x j with
  | false => rfl
  | true =>
    exfalso
    unfold dWn at hd
    simp only [Bool.or_eq_true, Bool.and_eq_true, beq_iff_eq] at hd
    obtain ⟨a1, a2, a3, a4, a5, a6⟩ := h1
    rcases hd with ⟨rfl, q⟩ | ⟨q, rfl⟩
    · have : j = 18 ∨ j = 19 ∨ j = 20 ∨ j = 21 ∨ j = 38 ∨ j = 48 := by simpa using q
      rcases this with rfl | rfl | rfl | rfl | rfl | rfl
      · rw [a1] at hx; cases hx
      · rw [a2] at hx; cases hx
      · rw [a3] at hx; cases hx
      · rw [a4] at hx; cases hx
      · rw [a5] at hx; cases hx
      · rw [a6] at hx; cases hx
    · rw [h2 x (by omega)] at hx
      cases hx
def wnF (kn : Nat) (M M' : zM) : Prop := ∀ x j, dWn kn x j = false → M' x j = M x j
theorem wn_mS {kn : Nat} {M M' : zM} (h : wnF kn M M') : mSame M M' kn := mS_fr (fun x j hx => h x j (wn_sub (d := dG kn) ⟨rfl, rfl, rfl, rfl, rfl, rfl⟩ (fun x hx => dG_k kn hx) x j hx))
theorem wn_pr {kn : Nat} {M M' : zM} (h : wnF kn M M') : frP M M' := fun x j hx => h x j (wn_sub (d := dPr) ⟨rfl, rfl, rfl, rfl, rfl, rfl⟩ (fun x hx => dPr_k (by omega) kn) x j hx)
theorem wn_o {kn : Nat} {M M' : zM} (h : wnF kn M M') : mKp M M' ∧ (M' 102 46 = M 102 46 ∧ M' 126 = M 126 ∧ M' 102 47 = M 102 47 ∧ M' 102 49 = M 102 49) ∧ (M' 102 39 = M 102 39 ∧ M' 102 44 = M 102 44) := ⟨⟨⟨h _ _ rfl, h _ _ rfl, h _ _ rfl⟩, funext fun j => h _ _ rfl, funext fun j => h _ _ rfl, funext fun j => h _ _ rfl⟩, ⟨h _ _ rfl, funext fun j => h _ _ rfl, h _ _ rfl, h _ _ rfl⟩, h _ _ rfl, h _ _ rfl⟩
theorem tkF_wn {kn : Nat} {M M' : zM} (h : tkF M M') : wnF kn M M' := fun x j hx => by
  by_cases q : x = 102
  · rw [q] at hx ⊢
    exact h.2 j (fun q2 => by rw [q2] at hx; cases hx) (fun q2 => by rw [q2] at hx; cases hx) (fun q2 => by rw [q2] at hx; cases hx) (fun q2 => by rw [q2] at hx; cases hx)
  · rw [h.1 x q]
theorem gw_wn (M : zM) (kn : Nat) (k v : Int) : wnF kn M (gwM M kn k v) := by
  unfold gwM
  exact fz_up (dWn_k kn (by decide)) (fz_up (dWn_k kn (by decide)) (fz_up (dWn_k kn (by decide)) (fz_up (dWn_k kn (by decide)) (fz_up rfl (fun _ _ _ => rfl)))))
/-- a plain number -/
theorem x_num {b : Nat} {t : Nat → Int} {n a : Nat} {V M : zM} {o0 c w kn L : Nat} {s : List Nat} {v : Int} (hb : b = 6 ∨ b = 13) (x : xI b V M o0 c w kn 0 L s) (han : a ≤ n) (hk : lxK t n a = 16) (hv : nmq v (lxN t n a)) (hv0 : 0 ≤ v) :
    (v ≤ 99999 → kn < 64 → (stpM b (nxM V t n a)).1 = 0 ∧ ∀ Mt, tkF (zup (gwM M kn 0 v) 102 48 0) Mt → xI b (sxM b t n V a) (doM Mt (o0 + c) s.length (64 + (kn : Int))) o0 (c + 1) w (kn + 1) 1 L (kn :: s)) ∧ (v ≤ 99999 → kn = 64 → (stpM b (nxM V t n a)).1 = 2) ∧ (99999 < v → (stpM b (nxM V t n a)).1 = 2) := by
  obtain ⟨x1, x2, ⟨k1, k2⟩, x4, x5, x6, x7, x8⟩ := id x
  have hd : V 1 3 = 4 := by omega
  obtain ⟨kn64, -, ob⟩ := xI_b x
  have i2 := x1.1.2
  have nn := x1.2.2.2.2.2.2.2.2
  obtain ⟨e1, e2, e3, e4, e5⟩ := nxM_r V t n a
  obtain ⟨N, hN⟩ : ∃ N, N = nxM V t n a := ⟨_, rfl⟩
  rw [← hN] at e1 e2 e3 e4 e5 ⊢
  have er : N 1 = V 1 := e4 _ (by decide)
  have eb : N b = V b := e4 b (by omega)
  have en : N 2 6 = lxN t n a := (e5 hk).1
  have b1 : b ≠ 1 := by omega
  have st : stpM b N = if 99999 < lxN t n a then (2, zup (wrM N b 16 0 (lxN t n a)) 1 3 5) else (ckF (zup (wrM N b 16 0 (lxN t n a)) 1 3 5) b, ckM (zup (wrM N b 16 0 (lxN t n a)) 1 3 5) b) := by
    rw [stp_4 (by rw [er]; exact hd)]
    unfold stpA
    rw [if_neg (by omega), if_pos (by omega), en]
  have ak : zup (wrM N b 16 0 (lxN t n a)) 1 3 5 b 9 = (kn : Int) := by
    rw [zup_ne _ _ _ b1, wrM_b (by decide), eb]
    exact k2
  refine ⟨fun q1 q2 => ?_, fun q1 q2 => ?_, fun q1 => ?_⟩
  · have ev : lxN t n a = v := by rcases hv with hv | hv <;> omega
    rw [ev] at st ak
    rw [if_neg (by omega)] at st
    have f0 : (stpM b N).1 = 0 := by rw [st]; exact ck_0.1 (by omega)
    have pV := sx_inv (t := t) (n := n) (a := a) hb x2 han (by rw [← hN]; exact f0)
    have kV := sx_keep (t := t) (n := n) (a := a) hb (show 4 ≤ V 1 3 by omega) (by omega)
    obtain ⟨V', hV'⟩ : ∃ V', V' = sxM b t n V a := ⟨_, rfl⟩
    rw [← hV'] at pV kV ⊢
    refine ⟨f0, fun Mt hMt => ?_⟩
    have eV : V' = zup (zup (zup (zup (zup (zup (zup N (b + 1) (o0 + c) 16) (b + 2) (o0 + c) 0) (b + 3) (o0 + c) v) b 7 (((o0 + c : Nat) : Int) + 1)) 1 3 5) b 9 ((kn : Int) + 1)) 1 1 0 := by
      rw [hV']
      unfold sxM
      rw [← hN, st]
      dsimp only
      unfold ckM
      rw [ak, wr_q (by rw [eb]; omega), eb, i2, Int.toNat_natCast]
    have g1 := wn_o (M := M) (M' := Mt) (kn := kn) (fxt (fz_up rfl (gw_wn M kn 0 v)) (tkF_wn hMt))
    obtain ⟨y1, y2, y3, y4, y5⟩ := gw_q M kn 0 v
    have th : ∀ j, j ≠ 18 → j ≠ 19 → j ≠ 20 → j ≠ 21 → Mt 102 j = zup (gwM M kn 0 v) 102 48 0 102 j := hMt.2
    have tk : Mt 113 (64 + kn) = 0 := by rw [hMt.1 _ (by decide), zup_ne _ _ _ (by decide)]; exact y3
    have ta : Mt 116 (64 + kn) = v := by rw [hMt.1 _ (by decide), zup_ne _ _ _ (by decide)]; exact y4
    have r1 : ∀ j, V' (b + 1) j = if j = o0 + c then 16 else V (b + 1) j := fun j => by
      rw [eV, zup_ne _ _ _ (by omega), zup_ne _ _ _ (by omega), zup_ne _ _ _ (by omega), zup_ne _ _ _ (by omega), zup_ne _ _ _ (by omega), zup_ne _ _ _ (by omega), zup_q, e4 _ (by omega)]
      simp
    have r2 : ∀ j, V' (b + 2) j = if j = o0 + c then 0 else V (b + 2) j := fun j => by
      rw [eV, zup_ne _ _ _ (by omega), zup_ne _ _ _ (by omega), zup_ne _ _ _ (by omega), zup_ne _ _ _ (by omega), zup_ne _ _ _ (by omega), zup_q, zup_ne _ _ _ (by omega), e4 _ (by omega)]
      simp
    have r3 : ∀ j, V' (b + 3) j = if j = o0 + c then v else V (b + 3) j := fun j => by
      rw [eV, zup_ne _ _ _ (by omega), zup_ne _ _ _ (by omega), zup_ne _ _ _ (by omega), zup_ne _ _ _ (by omega), zup_q, zup_ne _ _ _ (by omega), zup_ne _ _ _ (by omega), e4 _ (by omega)]
      simp
    have rs : V' b 7 = ((o0 + c : Nat) : Int) + 1 := by
      rw [eV, zup_ne _ _ _ b1, zup_q, if_neg (fun q => absurd q.2 (by decide)), zup_ne _ _ _ b1, zup_q, if_pos ⟨rfl, rfl⟩]
    have rk : V' b 9 = (kn : Int) + 1 := by
      rw [eV, zup_ne _ _ _ b1, zup_q, if_pos ⟨rfl, rfl⟩]
    have rr : ∀ j, j ≠ 3 → j ≠ 1 → V' 1 j = V 1 j := fun j j1 j2 => by
      rw [eV, zup_q, if_neg (fun q => j2 q.2), zup_ne _ _ _ b1.symm, zup_q, if_neg (fun q => j1 q.2), zup_ne _ _ _ b1.symm, zup_ne _ _ _ (by omega), zup_ne _ _ _ (by omega), zup_ne _ _ _ (by omega), er]
    have rd : V' 1 3 = 5 := by
      rw [eV, zup_q, if_neg (by decide), zup_ne _ _ _ b1.symm, zup_q, if_pos ⟨rfl, rfl⟩]
    have rw' : V' 4 = V 4 := by
      rw [eV, zup_ne _ _ _ (by omega), zup_ne _ _ _ (by omega), zup_ne _ _ _ (by omega), zup_ne _ _ _ (by omega), zup_ne _ _ _ (by omega), zup_ne _ _ _ (by omega), zup_ne _ _ _ (by omega), e4 _ (by decide)]
    have rc : V' 5 = V 5 := by
      rw [eV, zup_ne _ _ _ (by omega), zup_ne _ _ _ (by omega), zup_ne _ _ _ (by omega), zup_ne _ _ _ (by omega), zup_ne _ _ _ (by omega), zup_ne _ _ _ (by omega), zup_ne _ _ _ (by omega), e4 _ (by decide)]
    refine x_val hb x q2 (wn_mS (fxt (fz_up rfl (gw_wn M kn 0 v)) (tkF_wn hMt))) g1.1 ?_ ?_ g1.2.1 pV kV (fun j hj => ⟨by rw [r1, if_neg (by omega)], by rw [r2, if_neg (by omega)], by rw [r3, if_neg (by omega)]⟩) rs rk ⟨rr _ (by decide) (by decide), rw', rr _ (by decide) (by decide), rc, rr _ (by decide) (by decide), rd⟩ (Or.inl ⟨by rw [r1, if_pos rfl], tk, by rw [r3, if_pos rfl, ta], by rw [ta]; omega⟩)
    · rw [th _ (by decide) (by decide) (by decide) (by decide), zup_q, if_neg (by decide)]; exact y1
    · rw [th _ (by decide) (by decide) (by decide) (by decide), zup_q, if_pos ⟨rfl, rfl⟩]
  · have ev : lxN t n a = v := by rcases hv with hv | hv <;> omega
    rw [st, if_neg (by omega)]
    exact ck_0.2 (by omega)
  · have ev : 99999 < lxN t n a := by rcases hv with hv | hv <;> omega
    rw [st, if_pos ev]
/-- the class's cells within a window: the same but for what is due -/
def dUw (x j : Nat) : Bool := (x == 1 && [3, 11, 12, 1].contains j) || x == 2
def uwF (V V' : zM) : Prop := ∀ x j, dUw x j = false → V' x j = V x j
theorem nx_uw (V : zM) (t : Nat → Int) (n a : Nat) : uwF V (nxM V t n a) := fy_nx (fun j => by unfold dUw; simp)
theorem x_w1 {b : Nat} {t : Nat → Int} {n a : Nat} {V : zM} {kn : Nat} (hb : b = 6 ∨ b = 13) (hd : V 1 3 = 4) (hk : 5 ≤ lxK t n a ∧ lxK t n a ≤ 11) (k2 : V b 9 = (kn : Int)) :
    (kn < 64 → (stpM b (nxM V t n a)).1 = 0) ∧ (64 ≤ kn → (stpM b (nxM V t n a)).1 = 2) ∧ uwF (zup V b 9 ((kn : Int) + 1)) (sxM b t n V a) ∧ sxM b t n V a 1 3 = 6 ∧ sxM b t n V a 1 11 = lxK t n a := by
  obtain ⟨e1, e2, e3, e4, e5⟩ := nxM_r V t n a
  have uw := nx_uw V t n a
  unfold sxM
  obtain ⟨N, hN⟩ : ∃ N, N = nxM V t n a := ⟨_, rfl⟩
  rw [← hN] at e1 e2 e3 e4 e5 uw ⊢
  have er : N 1 = V 1 := e4 _ (by decide)
  have eb : N b = V b := e4 b (by omega)
  have b1 : b ≠ 1 := by omega
  have st : stpM b N = (ckF (zup (zup N 1 11 (lxK t n a)) 1 3 6) b, ckM (zup (zup N 1 11 (lxK t n a)) 1 3 6) b) := by
    rw [stp_4 (by rw [er]; exact hd)]
    unfold stpA
    rw [if_neg (by omega), if_neg (by omega), if_pos (by omega), e2]
  have ak : zup (zup N 1 11 (lxK t n a)) 1 3 6 b 9 = (kn : Int) := by
    rw [zup_ne _ _ _ b1, zup_ne _ _ _ b1, eb]
    exact k2
  rw [st]
  dsimp only
  unfold ckM
  rw [ak]
  refine ⟨fun q => ck_0.1 (by omega), fun q => ck_0.2 (by omega), ?_, ?_, ?_⟩
  · refine fz_up rfl ?_
    intro x j hx
    rw [zup_q, zup_q V]
    by_cases q : x = b ∧ j = 9
    · rw [if_pos q, if_pos q]
    · rw [if_neg q, if_neg q]
      exact fz_up rfl (fz_up rfl uw) x j hx
  · rw [zup_q, if_neg (by decide), zup_ne _ _ _ b1.symm, zup_q, if_pos ⟨rfl, rfl⟩]
  · rw [zup_q, if_neg (by decide), zup_ne _ _ _ b1.symm, zup_q, if_neg (by decide), zup_q, if_pos ⟨rfl, rfl⟩]
theorem x_w2 {b : Nat} {t : Nat → Int} {n a : Nat} {V : zM} (hd : V 1 3 = 6) :
    (stpM b (nxM V t n a)).1 = (if lxK t n a = 18 then (if V 1 8 < 8 then 0 else 2) else 1) ∧ uwF V (sxM b t n V a) ∧ sxM b t n V a 1 3 = 7 ∧ sxM b t n V a 1 11 = V 1 11 := by
  obtain ⟨e1, e2, e3, e4, e5⟩ := nxM_r V t n a
  have uw := nx_uw V t n a
  unfold sxM
  obtain ⟨N, hN⟩ : ∃ N, N = nxM V t n a := ⟨_, rfl⟩
  rw [← hN] at e1 e2 e3 e4 e5 uw ⊢
  have er : N 1 = V 1 := e4 _ (by decide)
  have st : stpM b N = ((if lxK t n a = 18 then (if V 1 8 < 8 then 0 else 2) else 1), zup N 1 3 7) := by
    rw [stp_6 (by rw [er]; omega)]
    unfold stpW
    rw [if_pos (by rw [er]; omega), e2, er]
  rw [st]
  dsimp only
  refine ⟨rfl, fz_up rfl (fz_up rfl uw), ?_, ?_⟩
  · rw [zup_q, if_neg (by decide), zup_q, if_pos ⟨rfl, rfl⟩]
  · rw [zup_q, if_neg (by decide), zup_q, if_neg (by decide), er]
theorem x_w3 {b : Nat} {t : Nat → Int} {n a : Nat} {V : zM} (hd : V 1 3 = 7) :
    (stpM b (nxM V t n a)).1 = (if 12 ≤ lxK t n a ∧ lxK t n a ≤ 15 then 0 else 1) ∧ uwF V (sxM b t n V a) ∧ sxM b t n V a 1 3 = 8 ∧ sxM b t n V a 1 11 = V 1 11 ∧ sxM b t n V a 1 12 = lxK t n a - 12 := by
  obtain ⟨e1, e2, e3, e4, e5⟩ := nxM_r V t n a
  have uw := nx_uw V t n a
  unfold sxM
  obtain ⟨N, hN⟩ : ∃ N, N = nxM V t n a := ⟨_, rfl⟩
  rw [← hN] at e1 e2 e3 e4 e5 uw ⊢
  have er : N 1 = V 1 := e4 _ (by decide)
  have st : stpM b N = ((if 12 ≤ lxK t n a ∧ lxK t n a ≤ 15 then 0 else 1), zup (zup N 1 3 8) 1 12 (lxK t n a - 12)) := by
    rw [stp_6 (by rw [er]; omega)]
    unfold stpW
    rw [if_neg (by rw [er]; omega), if_pos (by rw [er]; omega), e2]
  rw [st]
  dsimp only
  refine ⟨rfl, fz_up rfl (fz_up rfl (fz_up rfl uw)), ?_, ?_, ?_⟩
  · rw [zup_q, if_neg (by decide), zup_q, if_neg (by decide), zup_q, if_pos ⟨rfl, rfl⟩]
  · rw [zup_q, if_neg (by decide), zup_q, if_neg (by decide), zup_q, if_neg (by decide), er]
  · rw [zup_q, if_neg (by decide), zup_q, if_pos ⟨rfl, rfl⟩]
theorem x_w4 {b : Nat} {t : Nat → Int} {n a : Nat} {V : zM} (hd : V 1 3 = 8) :
    (stpM b (nxM V t n a)).1 = (if lxK t n a = 20 then 0 else 1) ∧ uwF V (sxM b t n V a) ∧ sxM b t n V a 1 3 = 9 ∧ sxM b t n V a 1 11 = V 1 11 ∧ sxM b t n V a 1 12 = V 1 12 := by
  obtain ⟨e1, e2, e3, e4, e5⟩ := nxM_r V t n a
  have uw := nx_uw V t n a
  unfold sxM
  obtain ⟨N, hN⟩ : ∃ N, N = nxM V t n a := ⟨_, rfl⟩
  rw [← hN] at e1 e2 e3 e4 e5 uw ⊢
  have er : N 1 = V 1 := e4 _ (by decide)
  have st : stpM b N = ((if lxK t n a = 20 then 0 else 1), zup N 1 3 9) := by
    rw [stp_6 (by rw [er]; omega)]
    unfold stpW
    rw [if_neg (by rw [er]; omega), if_neg (by rw [er]; omega), if_pos (by rw [er]; omega), e2]
  rw [st]
  dsimp only
  refine ⟨rfl, fz_up rfl (fz_up rfl uw), ?_, ?_, ?_⟩
  · rw [zup_q, if_neg (by decide), zup_q, if_pos ⟨rfl, rfl⟩]
  · rw [zup_q, if_neg (by decide), zup_q, if_neg (by decide), er]
  · rw [zup_q, if_neg (by decide), zup_q, if_neg (by decide), er]
theorem x_w5 {b : Nat} {t : Nat → Int} {n a : Nat} {V : zM} {o : Nat} (hb : b = 6 ∨ b = 13) (hd : V 1 3 = 9) (hs : V b 7 = (o : Int)) (ho : o < 64) :
    (stpM b (nxM V t n a)).1 = jdg (nxM V t n a) 1 48 ∧ uwF (zup (zup (zup (zup V (b + 1) o (V 1 11)) (b + 2) o (V 1 12)) (b + 3) o (nxM V t n a 2 6)) b 7 ((o : Int) + 1)) (sxM b t n V a) ∧ sxM b t n V a 1 3 = 10 := by
  obtain ⟨e1, e2, e3, e4, e5⟩ := nxM_r V t n a
  have uw := nx_uw V t n a
  unfold sxM
  obtain ⟨N, hN⟩ : ∃ N, N = nxM V t n a := ⟨_, rfl⟩
  rw [← hN] at e1 e2 e3 e4 e5 uw ⊢
  have er : N 1 = V 1 := e4 _ (by decide)
  have eb : N b = V b := e4 b (by omega)
  have b1 : b ≠ 1 := by omega
  have st : stpM b N = (jdg N 1 48, wrM (zup N 1 3 10) b (V 1 11) (V 1 12) (N 2 6)) := by
    rw [stp_6 (by rw [er]; omega)]
    unfold stpW
    rw [if_neg (by rw [er]; omega), if_neg (by rw [er]; omega), if_neg (by rw [er]; omega), if_pos (by rw [er]; omega), er]
  have sb : zup N 1 3 10 b 7 = (o : Int) := by rw [zup_ne _ _ _ b1, eb]; exact hs
  rw [st]
  dsimp only
  rw [wr_q (by rw [sb]; omega), sb, Int.toNat_natCast]
  refine ⟨rfl, ?_, ?_⟩
  · refine fz_up rfl ?_
    intro x j hx
    have u := fz_up (a := 1) (i := 3) (v := 10) (d := dUw) rfl uw x j hx
    rw [zup_q, zup_q, zup_q, zup_q, zup_q (M := zup (zup (zup V (b + 1) o (V 1 11)) (b + 2) o (V 1 12)) (b + 3) o (N 2 6)), zup_q (M := zup (zup V (b + 1) o (V 1 11)) (b + 2) o (V 1 12)), zup_q (M := zup V (b + 1) o (V 1 11)), zup_q (M := V), u]
  · rw [zup_q, if_neg (by decide), zup_ne _ _ _ b1.symm, zup_ne _ _ _ (by omega), zup_ne _ _ _ (by omega), zup_ne _ _ _ (by omega), zup_q, if_pos ⟨rfl, rfl⟩]
theorem x_w6 {b : Nat} {t : Nat → Int} {n a : Nat} {V : zM} (hd : V 1 3 = 10) :
    (stpM b (nxM V t n a)).1 = (if lxK t n a = 19 then 0 else 1) ∧ uwF V (sxM b t n V a) ∧ sxM b t n V a 1 3 = 5 := by
  obtain ⟨e1, e2, e3, e4, e5⟩ := nxM_r V t n a
  have uw := nx_uw V t n a
  unfold sxM
  obtain ⟨N, hN⟩ : ∃ N, N = nxM V t n a := ⟨_, rfl⟩
  rw [← hN] at e1 e2 e3 e4 e5 uw ⊢
  have er : N 1 = V 1 := e4 _ (by decide)
  have st : stpM b N = ((if lxK t n a = 19 then 0 else 1), zup N 1 3 5) := by
    rw [stp_6 (by rw [er]; omega)]
    unfold stpW
    rw [if_neg (by rw [er]; omega), if_neg (by rw [er]; omega), if_neg (by rw [er]; omega), if_neg (by rw [er]; omega), e2]
  rw [st]
  dsimp only
  refine ⟨rfl, fz_up rfl (fz_up rfl uw), ?_⟩
  rw [zup_q, if_neg (by decide), zup_q, if_pos ⟨rfl, rfl⟩]
