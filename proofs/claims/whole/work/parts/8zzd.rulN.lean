/-! the reader of rules: a parenthesis, a sign of one value, a value: the state goes over -/
theorem x_nw {b : Nat} {V M : zM} {o0 c w kn vl L : Nat} {s : List Nat} (x : xI b V M o0 c w kn vl L s) : kn ∉ s ∧ (∀ j : Nat, j < o0 + c → M 119 (64 + j) ≠ 64 + (kn : Int)) ∧ (∀ i : Nat, i < w → M 123 i ≠ 100 → M 124 i ≠ 64 + (kn : Int)) := by
  obtain ⟨⟨⟨i1, i2⟩, i3, i4, i5, ⟨i6, i7, i8⟩, ⟨i9, i10⟩, i11, i12, i13⟩, -⟩ := x
  have nd : ∀ j : Nat, j < o0 + c → M 119 (64 + j) ≠ 64 + (kn : Int) := fun j hj q => by
    obtain ⟨a, a1, a2⟩ := i4 j hj
    omega
  refine ⟨fun q => ?_, nd, fun i hi q q2 => ?_⟩
  · obtain ⟨j, j1, j2⟩ := (chn_l c s i5).2 kn q
    rw [sh_gb] at j2
    exact nd (o0 + j) (by omega) (by omega)
  · obtain ⟨a, a1, a2, -⟩ := i12 i hi q
    omega
theorem x_open {b : Nat} {t : Nat → Int} {n a : Nat} {V M : zM} {o0 c w kn L : Nat} {s : List Nat} (hb : b = 6 ∨ b = 13) (x : xI b V M o0 c w kn 0 L s) (han : a ≤ n) (hk : lxK t n a = 18) :
    (V 1 8 < 8 → (stpM b (nxM V t n a)).1 = 0 ∧ xI b (sxM b t n V a) (zup (zup (wfM (zup (zup M 126 (M 102 46).toNat (M 102 47)) 102 46 (M 102 46 + 1)) w 100 (-1)) 102 47 0) 102 49 1) o0 c (w + 1) kn 0 L s) ∧ (V 1 8 = 8 → (stpM b (nxM V t n a)).1 = 2) := by
  obtain ⟨x1, x2, ⟨k1, k2⟩, ⟨o1, o2, o3, o4⟩, x5, x6, x7, x8⟩ := id x
  have hd : V 1 3 = 4 := by omega
  have wv : M 102 48 = 1 := by omega
  obtain ⟨kn64, -, ob⟩ := xI_b x
  obtain ⟨⟨w1, w2⟩, w3⟩ := pIn5_w x2 (by omega)
  obtain ⟨t1, t2, t3⟩ := e_wt x1
  have i2 := x1.1.2
  obtain ⟨e1, e2, e3, e4, e5⟩ := nxM_r V t n a
  obtain ⟨N, hN⟩ : ∃ N, N = nxM V t n a := ⟨_, rfl⟩
  rw [← hN] at e1 e2 e3 e4 e5 ⊢
  have er : N 1 = V 1 := e4 _ (by decide)
  have ew : N 4 = V 4 := e4 _ (by decide)
  have ec : N 5 = V 5 := e4 _ (by decide)
  obtain ⟨O, hO⟩ : ∃ O : Nat, V 1 8 = (O : Int) := ⟨(V 1 8).toNat, by omega⟩
  have st : stpM b N = if N 1 8 < 8 then (0, awM (zup (zup (zup N 1 8 (N 1 8 + 1)) 5 (N 1 8 + 1).toNat 0) 1 10 1) 18) else (2, N) := by
    rw [stp_4 (by rw [er]; exact hd)]
    unfold stpA
    rw [if_pos (by rw [e2]; exact hk)]
  refine ⟨fun q => ?_, fun q => by rw [st, if_neg (by rw [er]; omega)]⟩
  rw [if_pos (by rw [er]; omega)] at st
  have f0 : (stpM b N).1 = 0 := by rw [st]
  have pV := sx_inv (t := t) (n := n) (a := a) hb x2 han (by rw [← hN]; exact f0)
  have kV := sx_keep (t := t) (n := n) (a := a) hb (show 4 ≤ V 1 3 by omega) (by omega)
  obtain ⟨V', hV'⟩ : ∃ V', V' = sxM b t n V a := ⟨_, rfl⟩
  rw [← hV'] at pV kV ⊢
  refine ⟨f0, ?_⟩
  have eV : V' = zup (zup (zup (zup (zup (zup N 1 8 ((O : Int) + 1)) 5 (O + 1) 0) 1 10 1) 4 w 18) 1 7 ((w : Int) + 1)) 1 1 0 := by
    have c0 : (zup (zup (zup N 1 8 ((O : Int) + 1)) 5 (O + 1) 0) 1 10 1) 1 7 = (w : Int) := by simp [zup_q, er, t1]
    rw [hV']
    unfold sxM
    rw [← hN, st]
    dsimp only
    rw [er, hO, show ((O : Int) + 1).toNat = O + 1 by omega, aw_q (by rw [c0]; omega), c0, Int.toNat_natCast]
  have v1 : V' 1 7 = (w : Int) + 1 := by rw [eV]; simp [zup_q]
  have v2 : ∀ j, V' 4 j = if j = w then 18 else V 4 j := fun j => by rw [eV]; simp [zup_q, ew]
  have v3 : V' 1 8 = (O : Int) + 1 := by rw [eV]; simp [zup_q]
  have v4 : ∀ j, V' 5 j = if j = O + 1 then 0 else V 5 j := fun j => by rw [eV]; simp [zup_q, ec]
  have v5 : V' 1 10 = 1 := by rw [eV]; simp [zup_q]
  have v6 : V' 1 3 = 4 := by rw [eV]; simp [zup_q, er, hd]
  have vo : ∀ y, y ≠ 1 → y ≠ 5 → y ≠ 4 → y ≠ 2 → V' y = V y := fun y h1 h2 h3 h4 => by
    rw [eV, zup_ne _ _ _ h1, zup_ne _ _ _ h1, zup_ne _ _ _ h3, zup_ne _ _ _ h1, zup_ne _ _ _ h2, zup_ne _ _ _ h1, e4 y h4]
  have vb : V' b = V b := vo b (by omega) (by omega) (by omega) (by omega)
  obtain ⟨M1, m1⟩ : ∃ M1, M1 = zup (zup M 126 (M 102 46).toNat (M 102 47)) 102 46 (M 102 46 + 1) := ⟨_, rfl⟩
  rw [← m1]
  obtain ⟨M2, m2⟩ : ∃ M2, M2 = wfM M1 w 100 (-1) := ⟨_, rfl⟩
  rw [← m2]
  obtain ⟨M3, m3⟩ : ∃ M3, M3 = zup (zup M2 102 47 0) 102 49 1 := ⟨_, rfl⟩
  rw [← m3]
  obtain ⟨g1, h1⟩ := e_g (V' := V) (M' := M1) hb x1 ⟨Nat.le_refl _, kn64⟩ (mS_fr (by rw [m1]; exact fz_up rfl (fz_up rfl (fun _ _ _ => rfl)))) (vS_r b V)
  obtain ⟨g2, h2⟩ := e_wait (V' := V') (t := 18) (k := 100) (at' := -1) (vl' := 0) hb g1 (Or.inl ⟨rfl, rfl⟩) m2 ⟨by rw [vb], vo _ (by omega) (by omega) (by omega) (by omega), vo _ (by omega) (by omega) (by omega) (by omega), vo _ (by omega) (by omega) (by omega) (by omega)⟩ v1 v2 (fun q2 => absurd rfl q2) (by rw [if_pos rfl]; have := g1.2.2.2.2.2.2.2.2; omega) (by rw [if_pos (Or.inl rfl)])
  obtain ⟨g3, h3⟩ := e_g (V' := V') (M' := M3) hb g2 ⟨Nat.le_refl _, kn64⟩ (mS_fr (by rw [m3]; exact fz_up rfl (fz_up rfl (fun _ _ _ => rfl)))) (vS_r b V')
  have f1 : ∀ j, j ≠ 46 → M1 102 j = M 102 j := fun j hj => by rw [m1, zup_q, if_neg (fun q2 => hj q2.2), zup_ne _ _ _ (by decide)]
  have f2 : ∀ j, j ≠ 42 → M2 102 j = M1 102 j := fun j hj => by
    rw [m2]
    unfold wfM
    rw [zup_q, if_neg (fun q2 => hj q2.2), zup_ne _ _ _ (by decide), zup_ne _ _ _ (by decide)]
  have f3 : ∀ j, j ≠ 47 → j ≠ 49 → M3 102 j = M2 102 j := fun j hj hj2 => by rw [m3, zup_q, if_neg (fun q2 => hj2 q2.2), zup_q, if_neg (fun q2 => hj q2.2)]
  have oM : ∀ y, y ≠ 102 → y ≠ 126 → y ≠ 123 → y ≠ 124 → M3 y = M y := fun y h1 h2 h3 h4 => by
    rw [m3, zup_ne _ _ _ h1, zup_ne _ _ _ h1, m2]
    unfold wfM
    rw [zup_ne _ _ _ h1, zup_ne _ _ _ h4, zup_ne _ _ _ h3, m1, zup_ne _ _ _ h1, zup_ne _ _ _ h2]
  have cM : ∀ j, M3 126 j = if j = O then M 102 47 else M 126 j := fun j => by
    rw [m3, zup_ne _ _ _ (by decide), zup_ne _ _ _ (by decide), m2]
    unfold wfM
    rw [zup_ne _ _ _ (by decide), zup_ne _ _ _ (by decide), zup_ne _ _ _ (by decide), m1, zup_ne _ _ _ (by decide), o1, hO, Int.toNat_natCast, zup_q]
    simp
  have oO : M3 102 46 = (O : Int) + 1 := by
    rw [f3 _ (by decide) (by decide), f2 _ (by decide), m1, zup_q, if_pos ⟨rfl, rfl⟩, o1, hO]
  refine xI_mk hb x g3 (agr_t h1 (agr_t h2 h3 (Nat.le_refl _)) (Nat.le_refl _)) pV ⟨?_, ?_⟩ ⟨?_, fun i hi => ?_, ?_, ?_⟩ (Or.inl ⟨rfl, ?_, v6⟩) kV ⟨⟨?_, ?_, ?_⟩, oM _ (by decide) (by decide) (by decide) (by decide), oM _ (by decide) (by decide) (by decide) (by decide), oM _ (by decide) (by decide) (by decide) (by decide)⟩
  · rw [f3 _ (by decide) (by decide), f2 _ (by decide), f1 _ (by decide)]; exact k1
  · rw [vb]; exact k2
  · rw [oO, v3]
  · rw [v3] at hi
    rw [cM, v4, if_neg (show ¬ i = O + 1 by omega)]
    by_cases q2 : i = O
    · rw [if_pos q2, o3, hO, Int.toNat_natCast, q2]
    · rw [if_neg q2]
      exact o2 i (by omega)
  · rw [v3, v4, if_pos (by omega), m3, zup_q, if_neg (by decide), zup_q, if_pos ⟨rfl, rfl⟩]
  · rw [v5, m3, zup_q, if_pos ⟨rfl, rfl⟩]
  · rw [f3 _ (by decide) (by decide), f2 _ (by decide), f1 _ (by decide)]; exact wv
  · rw [f3 _ (by decide) (by decide), f2 _ (by decide), f1 _ (by decide)]
  · rw [f3 _ (by decide) (by decide), f2 _ (by decide), f1 _ (by decide)]
  · rw [f3 _ (by decide) (by decide), f2 _ (by decide), f1 _ (by decide)]
theorem ck_0 {M : zM} {b : Nat} : (M b 9 < 64 → ckF M b = 0) ∧ (64 ≤ M b 9 → ckF M b = 2) := by
  unfold ckF
  exact ⟨fun q => if_neg (by omega), fun q => if_pos (by omega)⟩
theorem gw_q (M : zM) (kn : Nat) (k v : Int) : gwM M kn k v 102 38 = (kn : Int) + 1 ∧ (∀ j, j ≠ 38 → gwM M kn k v 102 j = M 102 j) ∧ gwM M kn k v 113 (64 + kn) = k ∧ gwM M kn k v 116 (64 + kn) = v ∧ ∀ y, y ≠ 102 → y ≠ 113 → y ≠ 114 → y ≠ 115 → y ≠ 116 → gwM M kn k v y = M y := by
  unfold gwM
  refine ⟨?_, fun j hj => ?_, ?_, ?_, fun y h1 h2 h3 h4 h5 => ?_⟩
  · rw [zup_ne _ _ _ (by decide), zup_ne _ _ _ (by decide), zup_ne _ _ _ (by decide), zup_ne _ _ _ (by decide), zup_q, if_pos ⟨rfl, rfl⟩]
  · rw [zup_ne _ _ _ (by decide), zup_ne _ _ _ (by decide), zup_ne _ _ _ (by decide), zup_ne _ _ _ (by decide), zup_q, if_neg (fun q => hj q.2)]
  · rw [zup_ne _ _ _ (by decide), zup_ne _ _ _ (by decide), zup_ne _ _ _ (by decide), zup_q, if_pos ⟨rfl, rfl⟩]
  · rw [zup_q, if_pos ⟨rfl, rfl⟩]
  · rw [zup_ne _ _ _ h5, zup_ne _ _ _ h4, zup_ne _ _ _ h3, zup_ne _ _ _ h2, zup_ne _ _ _ h1]
theorem wf_q (M : zM) (w : Nat) (k v : Int) : (∀ j, j ≠ 42 → wfM M w k v 102 j = M 102 j) ∧ ∀ y, y ≠ 102 → y ≠ 123 → y ≠ 124 → wfM M w k v y = M y := by
  unfold wfM
  exact ⟨fun j hj => by rw [zup_q, if_neg (fun q2 => hj q2.2), zup_ne _ _ _ (by decide), zup_ne _ _ _ (by decide)], fun y h1 h2 h3 => by rw [zup_ne _ _ _ h1, zup_ne _ _ _ h3, zup_ne _ _ _ h2]⟩
/-- a sign of one value -/
theorem x_one {b : Nat} {t : Nat → Int} {n a : Nat} {V M : zM} {o0 c w kn L : Nat} {s : List Nat} {k : Int} (hb : b = 6 ∨ b = 13) (x : xI b V M o0 c w kn 0 L s) (han : a ≤ n) (hk : (k = 11 ∧ lxK t n a = 22) ∨ (k = 12 ∧ lxK t n a = 4 ∧ V 1 10 ≠ 0)) :
    (kn < 64 → (stpM b (nxM V t n a)).1 = 0 ∧ xI b (sxM b t n V a) (ofM M kn w k) o0 c (w + 1) (kn + 1) 0 L s) ∧ (kn = 64 → (stpM b (nxM V t n a)).1 = 2) := by
  obtain ⟨x1, x2, ⟨k1, k2⟩, ⟨o1, o2, o3, o4⟩, x5, x6, x7, x8⟩ := id x
  have hd : V 1 3 = 4 := by omega
  have wv : M 102 48 = 1 := by omega
  obtain ⟨kn64, -, ob⟩ := xI_b x
  obtain ⟨⟨w1, w2⟩, w3⟩ := pIn5_w x2 (by omega)
  obtain ⟨t1, t2, t3⟩ := e_wt x1
  have i2 := x1.1.2
  obtain ⟨e1, e2, e3, e4, e5⟩ := nxM_r V t n a
  obtain ⟨N, hN⟩ : ∃ N, N = nxM V t n a := ⟨_, rfl⟩
  rw [← hN] at e1 e2 e3 e4 e5 ⊢
  have er : N 1 = V 1 := e4 _ (by decide)
  have ew : N 4 = V 4 := e4 _ (by decide)
  have eb : N b = V b := e4 b (by omega)
  obtain ⟨P, T, hP, hT, st⟩ : ∃ (P : zM) (T : Int), P = (if k = 11 then zup N 1 10 0 else N) ∧ wtR T k ∧ (stpM b N = (ckF (awM P T) b, ckM (awM P T) b)) := by
    rw [stp_4 (by rw [er]; exact hd)]
    unfold stpA
    rcases hk with ⟨q1, q2⟩ | ⟨q1, q2, q3⟩
    · refine ⟨_, 31, (if_pos q1).symm, Or.inr (Or.inl ⟨rfl, q1⟩), ?_⟩
      rw [if_neg (by omega), if_neg (by omega), if_neg (by omega), if_pos (by omega)]
    · refine ⟨_, 4, (if_neg (by omega)).symm, Or.inr (Or.inr (Or.inl ⟨rfl, q1⟩)), ?_⟩
      rw [if_neg (by omega), if_neg (by omega), if_neg (by omega), if_neg (by omega), if_pos ⟨by omega, by rw [er]; exact q3⟩]
  have pr : ∀ j, j ≠ 10 → P 1 j = V 1 j := fun j hj => by
    rw [hP]
    split
    · rw [zup_q, if_neg (fun q => hj q.2), er]
    · rw [er]
  have pn : P 1 10 = if k = 11 then 0 else V 1 10 := by
    rw [hP]
    split
    · rw [zup_q, if_pos ⟨rfl, rfl⟩]
    · rw [er]
  have po : ∀ y, y ≠ 1 → y ≠ 2 → P y = V y := fun y h1 h2 => by
    rw [hP]
    split
    · rw [zup_ne _ _ _ h1, e4 y h2]
    · exact e4 y h2
  have pw : P 1 7 = (w : Int) := by rw [pr _ (by decide)]; exact t1
  have w72 : kn < 64 → w < 72 := fun q => by omega
  have ak : awM P T b 9 = (kn : Int) := by
    unfold awM
    split
    · rw [zup_ne _ _ _ (by omega), zup_ne _ _ _ (by omega), po b (by omega) (by omega)]; exact k2
    · rw [po b (by omega) (by omega)]; exact k2
  refine ⟨fun q => ?_, fun q => by rw [st]; exact ck_0.2 (by omega)⟩
  have f0 : (stpM b N).1 = 0 := by rw [st]; exact ck_0.1 (by omega)
  have pV := sx_inv (t := t) (n := n) (a := a) hb x2 han (by rw [← hN]; exact f0)
  have kV := sx_keep (t := t) (n := n) (a := a) hb (show 4 ≤ V 1 3 by omega) (by omega)
  obtain ⟨V', hV'⟩ : ∃ V', V' = sxM b t n V a := ⟨_, rfl⟩
  rw [← hV'] at pV kV ⊢
  refine ⟨f0, ?_⟩
  have eV : V' = zup (zup (zup (zup P 4 w T) 1 7 ((w : Int) + 1)) b 9 ((kn : Int) + 1)) 1 1 0 := by
    rw [hV']
    unfold sxM
    rw [← hN, st]
    dsimp only
    unfold ckM
    rw [ak, aw_q (by rw [pw]; exact Int.ofNat_lt.mpr (w72 q)), pw, Int.toNat_natCast]
  have b1 : 1 ≠ b := by omega
  have b2 : 4 ≠ b := by omega
  have vr : ∀ j, j ≠ 7 → j ≠ 1 → V' 1 j = P 1 j := fun j h1 h2 => by
    rw [eV, zup_q, if_neg (fun q2 => h2 q2.2), zup_ne _ _ _ b1, zup_q, if_neg (fun q2 => h1 q2.2), zup_ne _ _ _ (by decide)]
  have v1 : V' 1 7 = (w : Int) + 1 := by rw [eV, zup_q, if_neg (by decide), zup_ne _ _ _ b1, zup_q, if_pos ⟨rfl, rfl⟩]
  have v2 : ∀ j, V' 4 j = if j = w then T else V 4 j := fun j => by
    rw [eV, zup_ne _ _ _ (by decide), zup_ne _ _ _ b2, zup_ne _ _ _ (by decide), zup_q, po _ (by decide) (by decide)]
    simp
  have vo : ∀ y, y ≠ 1 → y ≠ 4 → y ≠ 2 → y ≠ b → V' y = V y := fun y h1 h2 h3 h4 => by
    rw [eV, zup_ne _ _ _ h1, zup_ne _ _ _ h4, zup_ne _ _ _ h1, zup_ne _ _ _ h2, po y h1 h3]
  have vb : ∀ j, V' b j = if j = 9 then (kn : Int) + 1 else V b j := fun j => by
    rw [eV, zup_ne _ _ _ b1.symm, zup_q, zup_ne _ _ _ b1.symm, zup_ne _ _ _ b2.symm, po b (by omega) (by omega)]
    simp
  obtain ⟨n1, n2, n3⟩ := x_nw x
  obtain ⟨q1, q2, q3, q4, q5⟩ := gw_q M kn k 0
  obtain ⟨M1, m1⟩ : ∃ M1, M1 = gwM M kn k 0 := ⟨_, rfl⟩
  obtain ⟨g1, h1⟩ := e_g (V' := V) (M' := M1) hb x1 ⟨Nat.le_succ kn, q⟩ (by rw [m1]; exact mS_gw M kn k 0) (vS_r b V)
  rw [← m1] at q1 q2 q3 q4 q5
  obtain ⟨M2, m2⟩ : ∃ M2, M2 = wfM M1 w k (64 + (kn : Int)) := ⟨_, rfl⟩
  have k100 : k ≠ 100 := by omega
  have gw1 : M1 119 = M 119 := q5 _ (by decide) (by decide) (by decide) (by decide) (by decide)
  have gw2 : M1 123 = M 123 := q5 _ (by decide) (by decide) (by decide) (by decide) (by decide)
  have gw3 : M1 124 = M 124 := q5 _ (by decide) (by decide) (by decide) (by decide) (by decide)
  have nn := x1.2.2.2.2.2.2.2.2
  obtain ⟨g2, h2⟩ := e_wait (V' := V') (t := T) (k := k) (at' := 64 + (kn : Int)) (vl' := 0) hb g1 hT m2 ⟨by rw [vb, if_neg (by decide)], vo _ (by omega) (by omega) (by omega) (by omega), vo _ (by omega) (by omega) (by omega) (by omega), vo _ (by omega) (by omega) (by omega) (by omega)⟩ v1 v2 (fun _ => ⟨kn, rfl, Nat.lt_succ_self kn, q3, fun j hj => by rw [gw1]; exact n2 j hj, fun i' hi' q6 => by rw [gw2] at q6; rw [gw3]; exact n3 i' hi' q6⟩) (by rw [if_neg k100, gw2]; omega) (by rw [if_pos (by omega)])
  obtain ⟨M3, m3⟩ : ∃ M3, M3 = ofM M kn w k := ⟨_, rfl⟩
  have m3' : M3 = if k = 11 then zup M2 102 49 0 else M2 := by rw [m3, m2, m1]; rfl
  rw [← m3]
  obtain ⟨g3, h3⟩ := e_g (V' := V') (M' := M3) hb g2 ⟨Nat.le_refl _, q⟩ (mS_fr (by
    rw [m3']
    split
    · exact fz_up rfl (fun _ _ _ => rfl)
    · exact fun _ _ _ => rfl)) (vS_r b V')
  obtain ⟨u1, u2⟩ := wf_q M1 w k (64 + (kn : Int))
  rw [← m2] at u1 u2
  have f3 : ∀ j, j ≠ 49 → M3 102 j = M2 102 j := fun j hj => by
    rw [m3']
    split
    · rw [zup_q, if_neg (fun q6 => hj q6.2)]
    · rfl
  have o3' : ∀ y, y ≠ 102 → M3 y = M2 y := fun y hy => by
    rw [m3']
    split
    · rw [zup_ne _ _ _ hy]
    · rfl
  have fM : ∀ j, j ≠ 49 → j ≠ 42 → j ≠ 38 → M3 102 j = M 102 j := fun j j1 j2 j3 => by rw [f3 j j1, u1 j j2, q2 j j3]
  have oM : ∀ y, y ≠ 102 → y ≠ 123 → y ≠ 124 → y ≠ 113 → y ≠ 114 → y ≠ 115 → y ≠ 116 → M3 y = M y := fun y y1 y2 y3 y4 y5 y6 y7 => by rw [o3' y y1, u2 y y1 y2 y3, q5 y y1 y4 y5 y6 y7]
  refine xI_mk hb x g3 (agr_t h1 (agr_t h2 h3 (Nat.le_refl _)) (Nat.le_refl _)) pV ⟨?_, ?_⟩ ⟨?_, fun i hi => ?_, ?_, ?_⟩ (Or.inl ⟨rfl, ?_, ?_⟩) kV ⟨⟨fM _ (by decide) (by decide) (by decide), fM _ (by decide) (by decide) (by decide), fM _ (by decide) (by decide) (by decide)⟩, oM _ (by decide) (by decide) (by decide) (by decide) (by decide) (by decide) (by decide), oM _ (by decide) (by decide) (by decide) (by decide) (by decide) (by decide) (by decide), oM _ (by decide) (by decide) (by decide) (by decide) (by decide) (by decide) (by decide)⟩
  · rw [f3 _ (by decide), u1 _ (by decide), q1]; rfl
  · rw [vb, if_pos rfl]; rfl
  · rw [fM _ (by decide) (by decide) (by decide), vr _ (by decide) (by decide), pr _ (by decide)]; exact o1
  · rw [vr _ (by decide) (by decide), pr _ (by decide)] at hi
    rw [oM _ (by decide) (by decide) (by decide) (by decide) (by decide) (by decide) (by decide), vo _ (by decide) (by decide) (by decide) (by omega)]
    exact o2 i hi
  · rw [fM _ (by decide) (by decide) (by decide), vr _ (by decide) (by decide), pr _ (by decide), vo _ (by decide) (by decide) (by decide) (by omega)]
    exact o3
  · rw [vr _ (by decide) (by decide), pn, m3']
    by_cases q6 : k = 11
    · rw [if_pos q6, if_pos q6, zup_q, if_pos ⟨rfl, rfl⟩]
    · rw [if_neg q6, if_neg q6, u1 _ (by decide), q2 _ (by decide)]
      exact o4
  · rw [fM _ (by decide) (by decide) (by decide)]; exact wv
  · rw [vr _ (by decide) (by decide), pr _ (by decide)]; exact hd
/-- a value is done: the state goes over -/
theorem x_val {b : Nat} {V M V' Mg : zM} {o0 c w kn L : Nat} {s : List Nat} (hb : b = 6 ∨ b = 13) (x : xI b V M o0 c w kn 0 L s) (hkn : kn < 64) (hm : mSame M Mg kn) (hkp : mKp M Mg) (mk : Mg 102 38 = (kn : Int) + 1) (mw : Mg 102 48 = 0) (mo : Mg 102 46 = M 102 46 ∧ Mg 126 = M 126 ∧ Mg 102 47 = M 102 47 ∧ Mg 102 49 = M 102 49)
    (pV : pInv b V') (kV : kpL b V V') (hr : ∀ j, j < o0 + c → V' (b + 1) j = V (b + 1) j ∧ V' (b + 2) j = V (b + 2) j ∧ V' (b + 3) j = V (b + 3) j) (hs : V' b 7 = ((o0 + c : Nat) : Int) + 1) (hkk : V' b 9 = (kn : Int) + 1) (hvw : V' 1 7 = V 1 7 ∧ V' 4 = V 4 ∧ V' 1 8 = V 1 8 ∧ V' 5 = V 5 ∧ V' 1 10 = V 1 10 ∧ V' 1 3 = 5)
    (hv : (V' (b + 1) (o0 + c) = 16 ∧ Mg 113 (64 + kn) = 0 ∧ V' (b + 3) (o0 + c) = Mg 116 (64 + kn) ∧ (0 ≤ Mg 116 (64 + kn) ∧ Mg 116 (64 + kn) ≤ 99999)) ∨ ((5 ≤ V' (b + 1) (o0 + c) ∧ V' (b + 1) (o0 + c) ≤ 11) ∧ Mg 113 (64 + kn) = 15 ∧ V' (b + 1) (o0 + c) = Mg 117 (64 + kn) ∧ V' (b + 2) (o0 + c) = Mg 118 (64 + kn) ∧ (0 ≤ Mg 118 (64 + kn) ∧ Mg 118 (64 + kn) ≤ 3) ∧ V' (b + 3) (o0 + c) = Mg 116 (64 + kn) ∧ (1 ≤ Mg 116 (64 + kn) ∧ Mg 116 (64 + kn) ≤ 48))) :
    xI b V' (doM Mg (o0 + c) s.length (64 + (kn : Int))) o0 (c + 1) w (kn + 1) 1 L (kn :: s) := by
  obtain ⟨x1, x2, ⟨k1, k2⟩, ⟨o1, o2, o3, o4⟩, x5, x6, x7, x8⟩ := id x
  obtain ⟨n1, n2, n3⟩ := x_nw x
  obtain ⟨w1, w2, w3, w4, w5, w6⟩ := hvw
  have nn := x1.2.2.2.2.2.2.2.2
  obtain ⟨g1, h1⟩ := e_g (V' := V) (M' := Mg) hb x1 ⟨Nat.le_succ kn, hkn⟩ hm (vS_r b V)
  obtain ⟨M', m'⟩ : ∃ M', M' = doM Mg (o0 + c) s.length (64 + (kn : Int)) := ⟨_, rfl⟩
  rw [← m']
  have oM : ∀ y, y ≠ 102 → y ≠ 119 → y ≠ 125 → M' y = Mg y := fun y y1 y2 y3 => by
    rw [m']
    unfold doM
    rw [zup_ne _ _ _ y1, zup_ne _ _ _ y3, zup_ne _ _ _ y1, zup_ne _ _ _ y2]
  have fM : ∀ j, j ≠ 39 → j ≠ 44 → M' 102 j = Mg 102 j := fun j j1 j2 => by
    rw [m']
    unfold doM
    rw [zup_q, if_neg (fun q => j2 q.2), zup_ne _ _ _ (by decide), zup_q, if_neg (fun q => j1 q.2), zup_ne _ _ _ (by decide)]
  have y1 : shM V' M' 113 kn = Mg 113 (64 + kn) := by rw [sh_k (Or.inl rfl), oM _ (by decide) (by decide) (by decide)]
  have y2 : shM V' M' 116 kn = Mg 116 (64 + kn) := by rw [sh_k (Or.inr (Or.inl rfl)), oM _ (by decide) (by decide) (by decide)]
  have y3 : shM V' M' 117 kn = Mg 117 (64 + kn) := by rw [sh_k (Or.inr (Or.inr (Or.inl rfl))), oM _ (by decide) (by decide) (by decide)]
  have y4 : shM V' M' 118 kn = Mg 118 (64 + kn) := by rw [sh_k (Or.inr (Or.inr (Or.inr rfl))), oM _ (by decide) (by decide) (by decide)]
  have y5 : ∀ z, z < 102 → shM V' M' z = V' z := fun z hz => sh_c hz
  obtain ⟨⟨-, -, -⟩, ⟨mg1, -, mg3, mg4⟩, -⟩ := id hm
  obtain ⟨g2, h2⟩ := e_val (V' := V') (M' := M') (a := kn) hb g1 (Nat.lt_succ_self kn) (fun j hj => by rw [mg1]; exact n2 j hj) (fun i hi q => by rw [mg3] at q; rw [mg4]; exact n3 i hi q) (by rw [mg3]; omega) m' hr hs w1 w2
    (by
      unfold stp1
      rw [y1, y2, y3, y4]
      rcases hv with ⟨a1, a2, a3, a4⟩ | ⟨a1, a2, a3, a4, a5, a6, a7⟩
      · exact Or.inl ⟨a2, a4, n1, rfl⟩
      · exact Or.inr (Or.inl ⟨a2, by rw [← a3]; exact a1, a5, a7, n1, rfl⟩))
    (by
      unfold opRel
      rw [y1, y2, y3, y4, y5 _ (by omega), y5 _ (by omega), y5 _ (by omega)]
      rcases hv with ⟨a1, a2, a3, a4⟩ | ⟨a1, a2, a3, a4, a5, a6, a7⟩
      · exact Or.inl ⟨a1, a2, a3⟩
      · exact Or.inr (Or.inl ⟨a1, a2, a3, a4, a6⟩))
  obtain ⟨⟨p1, p2, p3⟩, p4, p5, p6⟩ := hkp
  refine xI_mk hb x g2 (agr_t h1 h2 (Nat.le_refl _)) pV ⟨?_, ?_⟩ ⟨?_, fun i hi => ?_, ?_, ?_⟩ (Or.inr ⟨rfl, ?_, w6⟩) kV ⟨⟨?_, ?_, ?_⟩, ?_, ?_, ?_⟩
  · rw [fM _ (by decide) (by decide), mk]; rfl
  · rw [hkk]; rfl
  · rw [fM _ (by decide) (by decide), mo.1, w3]; exact o1
  · rw [w3] at hi
    rw [oM _ (by decide) (by decide) (by decide), mo.2.1, w4]
    exact o2 i hi
  · rw [fM _ (by decide) (by decide), mo.2.2.1, w3, w4]; exact o3
  · rw [fM _ (by decide) (by decide), mo.2.2.2, w5]; exact o4
  · rw [fM _ (by decide) (by decide)]; exact mw
  · rw [fM _ (by decide) (by decide)]; exact p1
  · rw [fM _ (by decide) (by decide)]; exact p2
  · rw [fM _ (by decide) (by decide)]; exact p3
  · rw [oM _ (by decide) (by decide) (by decide)]; exact p4
  · rw [oM _ (by decide) (by decide) (by decide)]; exact p5
  · rw [oM _ (by decide) (by decide) (by decide)]; exact p6
