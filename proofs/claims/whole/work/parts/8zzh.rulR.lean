/-! the reader of rules: a sign between two values -/
theorem nx_vS {b : Nat} {t : Nat → Int} {n a : Nat} {V : zM} (hb : b = 6 ∨ b = 13) : vSame b V (nxM V t n a) := by
  obtain ⟨e1, e2, e3, e4, e5⟩ := nxM_r V t n a
  exact ⟨by rw [e4 b (by omega)], e4 _ (by omega), e4 _ (by omega), e4 _ (by omega), by rw [e4 1 (by decide)], e4 _ (by decide)⟩
theorem mS_r (M : zM) (kn : Nat) : mSame M M kn := mS_fr (fun _ _ _ => rfl)
theorem opTwo_w {T : Int} (h : opTwo T) : (1 ≤ wgt (opk T) ∧ wgt (opk T) ≤ 7) ∧ zR (opk T) ∧ opk T ≠ 100 ∧ opk T ≠ 11 ∧ opk T ≠ 12 ∧ stre T = wgt (opk T) := by
  have g := wt_w (Or.inr (Or.inr (Or.inr ⟨h, rfl⟩)) : wtR T (opk T))
  have r := opk_r h
  refine ⟨?_, g.2, by omega, by omega, by omega, g.1⟩
  rcases opTwo_c h with rfl | rfl | rfl | rfl | rfl | rfl | rfl | rfl | rfl | rfl | rfl | rfl <;> decide
/-- the class's cells as a sign T is looked at -/
def cpM (N : zM) (T : Int) : zM := if 21 ≤ T ∧ T ≤ 24 then N else zup N 5 (N 1 8).toNat (if 25 ≤ T ∧ T ≤ 30 then 1 else 0)
theorem cp_o (N : zM) (T : Int) : ∀ y, y ≠ 5 → cpM N T y = N y := fun y hy => by
  unfold cpM
  split
  · rfl
  · rw [zup_ne _ _ _ hy]
set_option maxHeartbeats 4000000 in
theorem x_join {b : Nat} {t : Nat → Int} {n a : Nat} {V M : zM} {o0 c w kn L : Nat} {s : List Nat} (hb : b = 6 ∨ b = 13) (x : xI b V M o0 c w kn 1 L s) (han : a ≤ n) (ht : opTwo (lxK t n a)) :
    ((25 ≤ lxK t n a ∧ lxK t n a ≤ 30) ∧ M 102 47 ≠ 0 → (stpM b (nxM V t n a)).1 = 1) ∧ (¬ ((25 ≤ lxK t n a ∧ lxK t n a ≤ 30) ∧ M 102 47 ≠ 0) → (kn = 64 → (stpM b (nxM V t n a)).1 = 2) ∧ (kn < 64 → (stpM b (nxM V t n a)).1 = 0 ∧ ∀ (M2 : zM) (c' w' : Nat) (s' : List Nat) (hc mn : Int), eInv b (stlM b (wgt (opk (lxK t n a))) w (cpM (nxM V t n a) (lxK t n a))) M2 o0 c' w' kn 1 s' → agr (shM V M) (shM (stlM b (wgt (opk (lxK t n a))) w (cpM (nxM V t n a) (lxK t n a))) M2) b (o0 + c) → c ≤ c' → w' ≤ w → mKp M M2 → M2 102 38 = (kn : Int) + 1 → M2 102 46 = M 102 46 → M2 126 = M 126 → M2 113 (64 + kn) = opk (lxK t n a) → hc = (if 25 ≤ lxK t n a ∧ lxK t n a ≤ 30 then 1 else if 21 ≤ lxK t n a ∧ lxK t n a ≤ 24 then M 102 47 else 0) → mn = (if lxK t n a = 2 ∨ lxK t n a = 3 then 1 else 0) →
      xI b (sxM b t n V a) (zup (zup (zup (wfM M2 w' (opk (lxK t n a)) (64 + (kn : Int))) 102 47 hc) 102 49 mn) 102 48 1) o0 c' (w' + 1) (kn + 1) 0 L s')) := by
  obtain ⟨x1, x2, ⟨k1, k2⟩, ⟨o1, o2, o3, o4⟩, x5, x6, x7, x8⟩ := id x
  have hd : V 1 3 = 5 := by omega
  obtain ⟨kn64, -, ob⟩ := xI_b x
  obtain ⟨⟨w1, w2⟩, w3⟩ := pIn5_w x2 (by omega)
  obtain ⟨t1, t2, t3⟩ := e_wt x1
  have i2 := x1.1.2
  obtain ⟨T, hT⟩ : ∃ T, T = lxK t n a := ⟨_, rfl⟩
  obtain ⟨g1, g2, g3, g4, g5, g6⟩ := opTwo_w (by rw [hT]; exact ht : opTwo T)
  have tc : T = 2 ∨ T = 3 ∨ (21 ≤ T ∧ T ≤ 30) := by rw [hT]; exact ht
  obtain ⟨e1, e2, e3, e4, e5⟩ := nxM_r V t n a
  have hSx : sxM b t n V a = zup (stpM b (nxM V t n a)).2 1 1 0 := rfl
  obtain ⟨N, hN⟩ : ∃ N, N = nxM V t n a := ⟨_, rfl⟩
  rw [← hN, ← hT] at e2
  rw [← hN] at e1 e3 e4 e5 hSx ⊢
  rw [← hT]
  have er : N 1 = V 1 := e4 _ (by decide)
  have ec : N 5 = V 5 := e4 _ (by decide)
  obtain ⟨O, hO⟩ : ∃ O : Nat, V 1 8 = (O : Int) := ⟨(V 1 8).toNat, by omega⟩
  rw [hO, Int.toNat_natCast] at o3
  have st0 : stpM b N = if sgBad N then (1, N) else (ckF (sgM b N) b, ckM (sgM b N) b) := by
    rw [stp_5 (by rw [er]; exact hd)]
    unfold stpB
    rw [if_neg (by omega), if_neg (by omega)]
  have bad : sgBad N ↔ ((25 ≤ T ∧ T ≤ 30) ∧ M 102 47 ≠ 0) := by
    unfold sgBad
    rw [e2, er, ec, hO, Int.toNat_natCast, ← o3]
    constructor
    · rintro ⟨q1, q2, q3⟩
      refine ⟨by omega, ?_⟩
      rcases q3 with q3 | q3
      · omega
      · exact q3
    · rintro ⟨q1, q2⟩
      exact ⟨by omega, by omega, Or.inr q2⟩
  refine ⟨fun q => by rw [st0, if_pos (bad.mpr q)], fun q => ?_⟩
  rw [if_neg (fun q2 => q (bad.mp q2))] at st0
  obtain ⟨C, hC⟩ : ∃ C, C = cpM N T := ⟨_, rfl⟩
  rw [← hC]
  have co := cp_o N T
  rw [← hC] at co
  have cr : C 1 = V 1 := by rw [co _ (by decide), er]
  have cb : C b = V b := by rw [co b (by omega), e4 b (by omega)]
  have cc : ∀ i, C 5 i = if (¬ (21 ≤ T ∧ T ≤ 24)) ∧ i = O then (if 25 ≤ T ∧ T ≤ 30 then 1 else 0) else V 5 i := fun i => by
    rw [hC]
    unfold cpM
    by_cases q1 : 21 ≤ T ∧ T ≤ 24
    · rw [if_pos q1, if_neg (fun q2 => q2.1 q1), ec]
    · rw [if_neg q1, er, hO, Int.toNat_natCast, zup_q, ec]
      by_cases q2 : i = O
      · rw [if_pos (show 5 = 5 ∧ i = O from ⟨rfl, q2⟩), if_pos (show (¬ (21 ≤ T ∧ T ≤ 24)) ∧ i = O from ⟨q1, q2⟩)]
      · rw [if_neg (show ¬ (5 = 5 ∧ i = O) from fun q3 => q2 q3.2), if_neg (show ¬ ((¬ (21 ≤ T ∧ T ≤ 24)) ∧ i = O) from fun q3 => q2 q3.2)]
  obtain ⟨S, hS⟩ : ∃ S, S = stlM b (wgt (opk T)) w C := ⟨_, rfl⟩
  rw [← hS]
  obtain ⟨s1, s2, s3, -, -⟩ := stl_n hb (least := wgt (opk T)) w C
  rw [← hS] at s1 s2 s3
  have sg : sgM b N = zup (zup (awM S T) 1 10 (if T = 2 ∨ T = 3 then 1 else 0)) 1 3 4 := by
    unfold sgM
    rw [e2, er, t1, Int.toNat_natCast, g6, hS, hC]
    unfold cpM
    rw [er]
  have ak : sgM b N b 9 = (kn : Int) := by
    rw [sg, zup_ne _ _ _ (by omega), zup_ne _ _ _ (by omega)]
    unfold awM
    split
    · rw [zup_ne _ _ _ (by omega), zup_ne _ _ _ (by omega), s3 _ (by decide), cb]; exact k2
    · rw [s3 _ (by decide), cb]; exact k2
  refine ⟨fun q1 => by rw [st0]; exact ck_0.2 (by omega), fun q1 => ?_⟩
  have f0 : (stpM b N).1 = 0 := by rw [st0]; exact ck_0.1 (by omega)
  have pV := sx_inv (t := t) (n := n) (a := a) hb x2 han (by rw [← hN]; exact f0)
  have kV := sx_keep (t := t) (n := n) (a := a) hb (show 4 ≤ V 1 3 by omega) (by rw [← hT]; omega)
  refine ⟨f0, fun M2 c' w' s' hc mn he ha hcc hww hkp hkr hop hcm hkt hhc hmn => ?_⟩
  obtain ⟨V', hV'⟩ : ∃ V', V' = sxM b t n V a := ⟨_, rfl⟩
  rw [← hV'] at pV kV hSx ⊢
  obtain ⟨u1, u2, u3⟩ := e_wt he
  have b1 : 1 ≠ b := by omega
  have b2 : 4 ≠ b := by omega
  have b3 : 5 ≠ b := by omega
  have eV : V' = zup (zup (zup (zup (zup (zup S 4 w' T) 1 7 ((w' : Int) + 1)) 1 10 (if T = 2 ∨ T = 3 then 1 else 0)) 1 3 4) b 9 ((kn : Int) + 1)) 1 1 0 := by
    rw [hSx, st0]
    dsimp only
    unfold ckM
    rw [ak, sg, aw_q (by rw [u1]; omega), u1, Int.toNat_natCast]
  have vr : ∀ j, j ≠ 7 → j ≠ 1 → j ≠ 10 → j ≠ 3 → V' 1 j = V 1 j := fun j h1 h2 h3 h4 => by
    rw [eV, zup_q, if_neg (fun q2 => h2 q2.2), zup_ne _ _ _ b1, zup_q, if_neg (fun q2 => h4 q2.2), zup_q, if_neg (fun q2 => h3 q2.2), zup_q, if_neg (fun q2 => h1 q2.2), zup_ne _ _ _ (by decide), s2 j h1, cr]
  have v1 : V' 1 7 = (w' : Int) + 1 := by rw [eV, zup_q, if_neg (by decide), zup_ne _ _ _ b1, zup_q, if_neg (by decide), zup_q, if_neg (by decide), zup_q, if_pos ⟨rfl, rfl⟩]
  have v5 : V' 1 10 = (if T = 2 ∨ T = 3 then 1 else 0) := by rw [eV, zup_q, if_neg (by decide), zup_ne _ _ _ b1, zup_q, if_neg (by decide), zup_q, if_pos ⟨rfl, rfl⟩]
  have v6 : V' 1 3 = 4 := by rw [eV, zup_q, if_neg (by decide), zup_ne _ _ _ b1, zup_q, if_pos ⟨rfl, rfl⟩]
  have v2 : ∀ j, V' 4 j = if j = w' then T else S 4 j := fun j => by
    rw [eV, zup_ne _ _ _ (by decide), zup_ne _ _ _ b2, zup_ne _ _ _ (by decide), zup_ne _ _ _ (by decide), zup_ne _ _ _ (by decide), zup_q]
    simp
  have vo : ∀ y, y ≠ 1 → y ≠ 4 → y ≠ b → V' y = S y := fun y h1 h2 h3 => by
    rw [eV, zup_ne _ _ _ h1, zup_ne _ _ _ h3, zup_ne _ _ _ h1, zup_ne _ _ _ h1, zup_ne _ _ _ h1, zup_ne _ _ _ h2]
  have vb : ∀ j, V' b j = if j = 9 then (kn : Int) + 1 else S b j := fun j => by
    rw [eV, zup_ne _ _ _ b1.symm, zup_q, zup_ne _ _ _ b1.symm, zup_ne _ _ _ b1.symm, zup_ne _ _ _ b1.symm, zup_ne _ _ _ b2.symm]
    simp
  have vc : ∀ i, V' 5 i = if (¬ (21 ≤ T ∧ T ≤ 24)) ∧ i = O then (if 25 ≤ T ∧ T ≤ 30 then 1 else 0) else V 5 i := fun i => by
    rw [vo _ (by decide) (by decide) b3, s1 _ (by decide) (by omega), cc]
  have vop : V' 1 8 = (O : Int) := by rw [vr _ (by decide) (by decide) (by decide) (by decide), hO]
  obtain ⟨j1, h1⟩ := e_g (V' := S) (M' := M2) (kn' := kn + 1) hb he ⟨Nat.le_succ kn, q1⟩ (mS_r M2 kn) (vS_r b S)
  have nd : (∀ j : Nat, j < o0 + c' → M2 119 (64 + j) ≠ 64 + (kn : Int)) ∧ (∀ i : Nat, i < w' → M2 123 i ≠ 100 → M2 124 i ≠ 64 + (kn : Int)) := by
    obtain ⟨⟨-, -⟩, -, i4, -, -, -, -, i12, -⟩ := he
    refine ⟨fun j hj q2 => ?_, fun i hi q2 q3 => ?_⟩
    · obtain ⟨y, y1, y2⟩ := i4 j hj
      omega
    · obtain ⟨y, y1, y2, -⟩ := i12 i hi q2
      omega
  have nn := he.2.2.2.2.2.2.2.2
  obtain ⟨M3, m3⟩ : ∃ M3, M3 = wfM M2 w' (opk T) (64 + (kn : Int)) := ⟨_, rfl⟩
  rw [← m3]
  obtain ⟨j2, h2⟩ := e_wait (V' := V') (t := T) (k := opk T) (at' := 64 + (kn : Int)) (vl' := 0) hb j1 (Or.inr (Or.inr (Or.inr ⟨tc, rfl⟩))) m3 ⟨by rw [vb, if_neg (by decide)], vo _ (by omega) (by omega) (by omega), vo _ (by omega) (by omega) (by omega), vo _ (by omega) (by omega) (by omega)⟩ v1 v2 (fun _ => ⟨kn, rfl, Nat.lt_succ_self kn, hkt, nd.1, nd.2⟩) (by rw [if_neg g3]; omega) (by rw [if_neg (by omega)])
  obtain ⟨M4, m4⟩ : ∃ M4, M4 = zup (zup (zup M3 102 47 hc) 102 49 mn) 102 48 1 := ⟨_, rfl⟩
  rw [← m4]
  obtain ⟨j3, h3⟩ := e_g (V' := V') (M' := M4) hb j2 ⟨Nat.le_refl _, q1⟩ (mS_fr (by rw [m4]; exact fz_up rfl (fz_up rfl (fz_up rfl (fun _ _ _ => rfl))))) (vS_r b V')
  obtain ⟨y1, y2⟩ := wf_q M2 w' (opk T) (64 + (kn : Int))
  rw [← m3] at y1 y2
  have fM : ∀ j, j ≠ 47 → j ≠ 49 → j ≠ 48 → j ≠ 42 → M4 102 j = M2 102 j := fun j p1 p2 p3 p4 => by
    rw [m4, zup_q, if_neg (fun q2 => p3 q2.2), zup_q, if_neg (fun q2 => p2 q2.2), zup_q, if_neg (fun q2 => p1 q2.2), y1 j p4]
  have oM : ∀ y, y ≠ 102 → y ≠ 123 → y ≠ 124 → M4 y = M2 y := fun y p1 p2 p3 => by
    rw [m4, zup_ne _ _ _ p1, zup_ne _ _ _ p1, zup_ne _ _ _ p1, y2 y p1 p2 p3]
  obtain ⟨⟨p1, p2, p3⟩, p4, p5, p6⟩ := hkp
  refine xI_mk hb x j3 (agr_t ha (agr_t h1 (agr_t h2 h3 (Nat.le_refl _)) (Nat.le_refl _)) (by omega)) pV ⟨?_, ?_⟩ ⟨?_, fun i hi => ?_, ?_, ?_⟩ (Or.inl ⟨rfl, ?_, v6⟩) kV ⟨⟨?_, ?_, ?_⟩, ?_, ?_, ?_⟩
  · rw [fM _ (by decide) (by decide) (by decide) (by decide), hkr]; rfl
  · rw [vb, if_pos rfl]; rfl
  · rw [fM _ (by decide) (by decide) (by decide) (by decide), hop, o1, vop, hO]
  · rw [vop] at hi
    rw [oM _ (by decide) (by decide) (by decide), hcm, vc, if_neg (by omega)]
    exact o2 i (by omega)
  · rw [vop, Int.toNat_natCast, vc, m4, zup_q, if_neg (by decide), zup_q, if_neg (by decide), zup_q, if_pos ⟨rfl, rfl⟩, hhc]
    by_cases z1 : 21 ≤ T ∧ T ≤ 24
    · rw [if_neg (show ¬ (25 ≤ T ∧ T ≤ 30) by omega), if_pos z1, if_neg (fun z2 => z2.1 z1)]
      exact o3
    · rw [if_neg z1, if_pos (show (¬ (21 ≤ T ∧ T ≤ 24)) ∧ O = O from ⟨z1, rfl⟩)]
  · rw [v5, m4, zup_q, if_neg (by decide), zup_q, if_pos ⟨rfl, rfl⟩, hmn]
  · rw [m4, zup_q, if_pos ⟨rfl, rfl⟩]
  · rw [fM _ (by decide) (by decide) (by decide) (by decide)]; exact p1
  · rw [fM _ (by decide) (by decide) (by decide) (by decide)]; exact p2
  · rw [fM _ (by decide) (by decide) (by decide) (by decide)]; exact p3
  · rw [oM _ (by decide) (by decide) (by decide)]; exact p4
  · rw [oM _ (by decide) (by decide) (by decide)]; exact p5
  · rw [oM _ (by decide) (by decide) (by decide)]; exact p6
theorem bn_tc {M M' : zM} (h : ∀ x j, dBn x j = false → M' x j = M x j) : tcF M M' := fun x j hx => h x j (by
  cases hd : dBn x j with
  | false => rfl
  | true =>
    exfalso
    unfold dBn at hd
    simp only [Bool.or_eq_true, Bool.and_eq_true, beq_iff_eq, decide_eq_true_eq] at hd
    rcases hd with (⟨rfl, h2⟩ | ⟨h2, h3⟩) | rfl
    · have : j = 42 ∨ j = 44 ∨ j = 39 := by simpa using h2
      rcases this with rfl | rfl | rfl <;> exact absurd hx (by decide)
    · rcases h2 with (rfl | rfl) | rfl <;> cases hx
    · cases hx)
theorem bn_kp {M M' : zM} (h : ∀ x j, dBn x j = false → M' x j = M x j) : mKp M M' ∧ (M' 102 46 = M 102 46 ∧ M' 126 = M 126 ∧ M' 102 47 = M 102 47 ∧ M' 102 49 = M 102 49 ∧ M' 102 48 = M 102 48 ∧ M' 102 38 = M 102 38 ∧ M' 113 = M 113) := ⟨⟨⟨h _ _ rfl, h _ _ rfl, h _ _ rfl⟩, funext fun j => h _ _ rfl, funext fun j => h _ _ rfl, funext fun j => h _ _ rfl⟩, h _ _ rfl, funext fun j => h _ _ rfl, h _ _ rfl, h _ _ rfl, h _ _ rfl, h _ _ rfl, funext fun j => h _ _ rfl⟩
theorem mKp_t {M M1 M2 : zM} (h : mKp M M1) (g : mKp M1 M2) : mKp M M2 := ⟨⟨g.1.1.trans h.1.1, g.1.2.1.trans h.1.2.1, g.1.2.2.trans h.1.2.2⟩, g.2.1.trans h.2.1, g.2.2.1.trans h.2.2.1, g.2.2.2.trans h.2.2.2⟩
set_option maxHeartbeats 4000000 in
theorem r_joins {E : zE} {M M0 V : zM} {Q : Int → zM → Prop} {b : Nat} {t : Nat → Int} {n : Nat} {R : Int × zM} {k a o0 c w kn L : Nat} {s : List Nat} {K : Int} (hb : b = 6 ∨ b = 13) (h : tkS b t n R M V k a) (x : xI b V M o0 c w kn 1 L s) (ht : opTwo (lxK t n a)) (hK : K = opk (lxK t n a)) (fr : frP M0 M) (hQ : xP b t n R o0 L k M0 Q) : zP E mX12_joins [.inr (.inr 102), .inl K] M Q := by
  obtain ⟨x1, x2, ⟨k1, k2⟩, ⟨o1, o2, o3, o4⟩, x5, x6, x7, x8⟩ := id x
  have hd : V 1 3 = 5 := by omega
  obtain ⟨kn64, w72, ob⟩ := xI_b x
  obtain ⟨⟨w1, w2⟩, w3⟩ := pIn5_w x2 (by omega)
  obtain ⟨t1, t2, t3⟩ := e_wt x1
  obtain ⟨-, -, -, -, -, -, hq⟩ := id x2
  obtain ⟨-, -, q3n, q4c, -⟩ := hq (by omega)
  have hc01 : M 102 47 = 0 ∨ M 102 47 = 1 := by rw [o3]; exact q4c _ (by omega)
  obtain ⟨X1, X2⟩ := x_join hb x h.2.1 ht
  obtain ⟨T, hT⟩ : ∃ T, T = lxK t n a := ⟨_, rfl⟩
  rw [← hT] at ht X1 X2 hK
  obtain ⟨g1, g2, g3, g4, g5, g6⟩ := opTwo_w ht
  have tc : T = 2 ∨ T = 3 ∨ (21 ≤ T ∧ T ≤ 30) := ht
  have kc : (T = 2 ∧ K = 14) ∨ (T = 3 ∧ K = 13) ∨ ((21 ≤ T ∧ T ≤ 24) ∧ K = T - 14) ∨ ((25 ≤ T ∧ T ≤ 30) ∧ K = T - 24) := by
    rw [hK]
    rcases opTwo_c ht with rfl | rfl | rfl | rfl | rfl | rfl | rfl | rfl | rfl | rfl | rfl | rfl <;> decide
  rw [← hK] at g1 g2 g3 g4 g5 g6 X2
  have zK : zR K := g2
  have grow : ∀ F : zM → Prop, ¬ ((25 ≤ T ∧ T ≤ 30) ∧ M 102 47 ≠ 0) → (∀ M8 : zM, M8 102 47 = M 102 47 → (∀ hc mn : Int, hc = (if 25 ≤ T ∧ T ≤ 30 then 1 else if 21 ≤ T ∧ T ≤ 24 then M 102 47 else 0) → mn = (if T = 2 ∨ T = 3 then 1 else 0) → zP E mX12_take [.inr (.inr 102)] (zup (zup (zup M8 102 47 hc) 102 49 mn) 102 48 1) (fun _ M' => Q 1 M')) → F M8) →
      zP E mX12_grown [.inr (.inr 102), .inl K, .inl 0] M (fun r1 M2 => ((zR r1) ∧ ((0 ≤ r1 → (zP E mX12_weight [.inl K] M2 (fun r3 M4 => (zP E mX12_bind [.inr (.inr 102), .inl r3] M4 (fun r5 M6 => (zP E mX12_waitFor [.inr (.inr 102), .inl K, .inl r1] M6 (fun r7 M8 => F M8))))))) ∧ (r1 < 0 → Q 0 M2)))) := by
    intro F nb hF
    obtain ⟨Y1, Y2⟩ := X2 nb
    refine r_grown k1 kn64 (fun q => ⟨by unfold zR; omega, fun _ => ?_, fun q4 => absurd q4 (by omega)⟩) (fun q => ⟨zRd rfl, fun q4 => absurd q4 (by decide), fun _ => x_bad h (by omega) (Y1 q) (by decide) rfl fr hQ⟩)
    obtain ⟨f0, Y⟩ := Y2 q
    refine r_weight zK ?_
    obtain ⟨y1, y2, y3, y4, y5⟩ := gw_q M kn K 0
    obtain ⟨Mg, mg⟩ : ∃ Mg, Mg = gwM M kn K 0 := ⟨_, rfl⟩
    have sM : mSame M Mg kn := by rw [mg]; exact mS_gw M kn K 0
    have fg : frP M Mg := by rw [mg]; exact gw_pr M kn K 0
    rw [← mg] at y1 y2 y3 y4 y5 ⊢
    have vS : vSame b V (cpM (nxM V t n a) T) := by
      obtain ⟨z1, z2, z3, z4, z5, z6⟩ := nx_vS (t := t) (n := n) (a := a) (V := V) hb
      have co := cp_o (nxM V t n a) T
      exact ⟨by rw [co b (by omega)]; exact z1, by rw [co _ (by omega)]; exact z2, by rw [co _ (by omega)]; exact z3, by rw [co _ (by omega)]; exact z4, by rw [co 1 (by decide)]; exact z5, by rw [co _ (by decide)]; exact z6⟩
    obtain ⟨j1, h1⟩ := e_g (V' := cpM (nxM V t n a) T) (M' := Mg) hb x1 ⟨Nat.le_refl _, kn64⟩ sM vS
    refine r_bind hb g1 w72 j1 ?_
    intro M6 c' w' s' he fb ha hcc hww _
    obtain ⟨b1, b2, b3, b4, b5, b6, b7, b8⟩ := bn_kp fb
    obtain ⟨-, u2, -⟩ := e_wt he
    refine r_waitFor u2 (by omega) ?_
    have gk : mKp M Mg := ⟨⟨y2 _ (by decide), y2 _ (by decide), y2 _ (by decide)⟩, y5 _ (by decide) (by decide) (by decide) (by decide) (by decide), y5 _ (by decide) (by decide) (by decide) (by decide) (by decide), y5 _ (by decide) (by decide) (by decide) (by decide) (by decide)⟩
    refine hF _ (by rw [(wf_q ..).1 _ (by decide), b4, y2 _ (by decide)]) (fun hc mn hhc hmn => ?_)
    have Z := Y M6 c' w' s' hc mn he (agr_t h1 ha (Nat.le_refl _)) hcc hww (mKp_t gk b1) (by rw [b7]; exact y1) (by rw [b2]; exact y2 _ (by decide)) (by rw [b3]; exact y5 _ (by decide) (by decide) (by decide) (by decide) (by decide)) (by rw [b8, y3, hK]) hhc hmn
    have tg : tcF M Mg := by
      rw [mg]
      unfold gwM
      exact fz_up rfl (fz_up rfl (fz_up rfl (fz_up rfl (fz_up rfl (fun _ _ _ => rfl)))))
    exact x_go hb h (by omega) f0 (fz_up rfl (fz_up rfl (fz_up rfl (fz_up rfl (fz_up rfl (fz_up rfl (fxt tg (bn_tc fb)))))))) Z (frP_t fr (frP_t fg (frP_t (bn_pr fb) (frP_t (wf_pr M6 w' K (64 + (kn : Int))) (fz_up rfl (fz_up rfl (fz_up rfl (fun _ _ _ => rfl)))))))) hQ
  refine vcX12_joins _ ?_
  refine ⟨zK, fun q1 => ?_, fun q1 => ⟨by unfold zR; omega, fun q2 => ?_, fun q2 => ?_⟩⟩
  · refine grow _ (fun q2 => by omega) (fun M8 e8 H => ?_)
    refine ⟨zK, fun q2 M9 m9 => ⟨zK, fun q3 => absurd q3 (by omega), fun q3 M14 m14 M15 m15 => ?_⟩, fun q2 => ⟨by rw [e8]; unfold zR; omega, fun q3 M18 m18 => ⟨zK, fun q4 M19 m19 M20 m20 => ?_, fun q4 => absurd q4 (by omega)⟩, fun q3 M27 m27 => ⟨zK, fun q4 M28 m28 M29 m29 => ?_, fun q4 => absurd q4 (by omega)⟩⟩⟩
    · rw [m15, m14, m9]
      exact H 0 1 (by rw [if_neg (by omega), if_neg (by omega)]) (by rw [if_pos (by omega)])
    · rw [m20, m19, m18]
      exact H 0 0 (by rw [if_neg (by omega), if_pos (by omega), ← e8, q3]) (by rw [if_neg (by omega)])
    · rw [m29, m28, m27]
      exact H 1 0 (by rw [if_neg (by omega), if_pos (by omega)]; omega) (by rw [if_neg (by omega)])
  · refine grow _ (fun q3 => q3.2 q2) (fun M8 e8 H => ?_)
    intro M44 m44
    refine ⟨zK, fun q4 M45 m45 M46 m46 => ?_, fun q4 => absurd q4 (by omega)⟩
    rw [m46, m45, m44]
    exact H 1 0 (by rw [if_pos (by omega)]) (by rw [if_neg (by omega)])
  · exact r_wrong (x_bad h (by omega) (X1 ⟨by omega, q2⟩) (by decide) rfl fr (xP_01 hQ))
