/-! the reader of rules: a parenthesis closes; an expression -/
theorem e_drop {f : Nat} {V M V' M' : zM} {o0 c w kn vl : Nat} {s : List Nat} (hf : f = 6 ∨ f = 13) (h : eInv f V M o0 c (w + 1) kn vl s) (hk : M 123 w = 100)
    (m : (M' 102 39 = M 102 39 ∧ M' 102 44 = M 102 44 ∧ M' 102 42 = (w : Int)) ∧ ∀ y, y ≠ 102 → M' y = M y)
    (v : V' f 7 = V f 7 ∧ V' (f + 1) = V (f + 1) ∧ V' (f + 2) = V (f + 2) ∧ V' (f + 3) = V (f + 3) ∧ V' 1 7 = (w : Int) ∧ V' 4 = V 4) : eInv f V' M' o0 c w kn vl s ∧ agr (shM V M) (shM V' M') f (o0 + c) := by
  obtain ⟨⟨i1, i2⟩, i3, i4, i5, ⟨i6, i7, i8⟩, ⟨i9, i10⟩, i11, i12, i13⟩ := h
  obtain ⟨⟨m1, m2, m3⟩, mo⟩ := m
  obtain ⟨v1, v2, v3, v4, v5, v6⟩ := v
  have nw : nwc (M 123) (w + 1) = nwc (M 123) w := by
    show nwc (M 123) w + (if M 123 w = 100 then 0 else 1) = _
    rw [if_pos hk]
    rfl
  have bn : bnc (M 123) (w + 1) = bnc (M 123) w := by
    show bnc (M 123) w + (if M 123 w = 100 ∨ M 123 w = 11 ∨ M 123 w = 12 then 0 else 1) = _
    rw [if_pos (Or.inl hk)]
    rfl
  have g1 : M' 119 = M 119 := mo _ (by decide)
  have g2 : M' 123 = M 123 := mo _ (by decide)
  have g3 : M' 124 = M 124 := mo _ (by decide)
  have g4 : M' 113 = M 113 := mo _ (by decide)
  have g5 : M' 125 = M 125 := mo _ (by decide)
  have ag : agr (shM V M) (shM V' M') f (o0 + c) := sh_agr hf i4 (fun j hj => by rw [g1]) (fun j hj => by rw [v2, v3, v4]; exact ⟨rfl, rfl, rfl⟩) (fun b hb => by rw [g4, mo 114 (by decide), mo 115 (by decide), mo 116 (by decide), mo 117 (by decide), mo 118 (by decide)]; exact ⟨rfl, rfl, rfl, rfl, rfl, rfl⟩)
  refine ⟨⟨⟨by rw [m1]; exact i1, by rw [v1]; exact i2⟩, i3, fun j hj => by rw [g1]; exact i4 j hj, chn_g ag c (Nat.le_refl _) s i5, ⟨by rw [m2]; exact i6, by rw [g5]; exact i7, by rw [g2]; omega⟩, ⟨m3, v5⟩, fun i hi => by rw [v6, g2]; exact i11 i (by omega), fun i hi q => ?_, by rw [g2]; omega⟩, ag⟩
  rw [g2] at q
  obtain ⟨y, y1, y2, y3, y4, y5⟩ := i12 i (by omega) q
  rw [g3, g4, g2, g1]
  exact ⟨y, y1, y2, y3, y4, y5⟩
/-- how many wait once all back to a parenthesis is settled -/
theorem x_stl {b : Nat} {t : Nat → Int} {n a : Nat} {V M : zM} {o0 c w kn L : Nat} {s : List Nat} (hb : b = 6 ∨ b = 13) (x : xI b V M o0 c w kn 1 L s) : ∃ k' : Nat, stlM b 1 w (nxM V t n a) 1 7 = (k' : Int) ∧ (V 1 8 = 0 → k' = 0) ∧ (0 < V 1 8 → 0 < k') := by
  obtain ⟨x1, x2, ⟨k1, k2⟩, x4, x5, x6, x7, x8⟩ := id x
  obtain ⟨e1, e2, e3, e4, e5⟩ := nxM_r V t n a
  obtain ⟨t1, t2, t3⟩ := e_wt x1
  obtain ⟨⟨w1, w2⟩, w3⟩ := pIn5_w x2 (by omega)
  obtain ⟨p1, p2, p3, p4, p5, p6, p7⟩ := id x2
  obtain ⟨q1, q2, q3, q4, q5, q6, q7⟩ := p7 (by omega)
  obtain ⟨N, hN⟩ : ∃ N, N = nxM V t n a := ⟨_, rfl⟩
  rw [← hN] at e4 ⊢
  have er : N 1 = V 1 := e4 _ (by decide)
  have ew : N 4 = V 4 := e4 _ (by decide)
  have eb : N b = V b := e4 b (by omega)
  rw [t1, Int.toNat_natCast] at q6
  obtain ⟨k', y1, y2, y3, y4, y5, y6⟩ := stl_k hb (least := 1) (by decide) w N (by rw [er]; exact t1) (by rw [eb, ew]; omega)
  rw [ew] at y3 y4 y6
  refine ⟨k', y1, fun z => ?_, fun z => ?_⟩
  · rcases y6 with y6 | y6
    · exact y6
    · by_cases z2 : k' = 0
      · exact z2
      · exfalso
        obtain ⟨k2, rfl⟩ : ∃ k2, k' = k2 + 1 := ⟨k' - 1, by omega⟩
        have z3 := stre0 y6
        rw [show k2 + 1 - 1 = k2 by omega] at z3
        rw [pcn_u, if_pos z3] at y4
        have := pcn_r (V 4) k2
        omega
  · by_cases z2 : k' = 0
    · exfalso
      rw [z2] at y4
      have : pcn (V 4) 0 = 0 := rfl
      omega
    · omega
theorem x_close {b : Nat} {t : Nat → Int} {n a : Nat} {V M : zM} {o0 c w kn L O : Nat} {s : List Nat} (hb : b = 6 ∨ b = 13) (x : xI b V M o0 c w kn 1 L s) (han : a ≤ n) (ht : lxK t n a = 19) (hO : V 1 8 = (O : Int) + 1) :
    (stpM b (nxM V t n a)).1 = 0 ∧ ∀ (M2 : zM) (c' w' : Nat) (s' : List Nat), eInv b (stlM b 1 w (nxM V t n a)) M2 o0 c' w' kn 1 s' → agr (shM V M) (shM (stlM b 1 w (nxM V t n a)) M2) b (o0 + c) → c ≤ c' → (w' = 0 ∨ wgt (M2 123 (w' - 1)) < 1) → mKp M M2 → (M2 102 46 = M 102 46 ∧ M2 126 = M 126 ∧ M2 102 47 = M 102 47 ∧ M2 102 49 = M 102 49 ∧ M2 102 48 = M 102 48 ∧ M2 102 38 = M 102 38 ∧ M2 113 = M 113) →
      ∃ v : Nat, w' = v + 1 ∧ xI b (sxM b t n V a) (zup (zup (zup M2 102 42 (v : Int)) 102 46 (O : Int)) 102 47 (M 126 O)) o0 c' v kn 1 L s' := by
  obtain ⟨x1, x2, ⟨k1, k2⟩, ⟨o1, o2, o3, o4⟩, x5, x6, x7, x8⟩ := id x
  have hd : V 1 3 = 5 := by omega
  obtain ⟨k', y1, y2, y3⟩ := x_stl (t := t) (n := n) (a := a) hb x
  obtain ⟨t1, t2, t3⟩ := e_wt x1
  obtain ⟨e1, e2, e3, e4, e5⟩ := nxM_r V t n a
  have hSx : sxM b t n V a = zup (stpM b (nxM V t n a)).2 1 1 0 := rfl
  obtain ⟨N, hN⟩ : ∃ N, N = nxM V t n a := ⟨_, rfl⟩
  rw [← hN] at e1 e2 e3 e4 e5 hSx y1 ⊢
  have er : N 1 = V 1 := e4 _ (by decide)
  have ec : N 5 = V 5 := e4 _ (by decide)
  obtain ⟨S, hS⟩ : ∃ S, S = stlM b 1 w N := ⟨_, rfl⟩
  obtain ⟨s1, s2, s3, -, -⟩ := stl_n hb (least := 1) w N
  rw [← hS] at s1 s2 s3 y1
  have st : stpM b N = (0, zup (zup S 1 7 (S 1 7 - 1)) 1 8 (S 1 8 - 1)) := by
    rw [stp_5 (by rw [er]; exact hd)]
    unfold stpB
    rw [if_neg (by omega), if_pos (by rw [er]; omega), er, t1, Int.toNat_natCast, ← hS]
  have f0 : (stpM b N).1 = 0 := by rw [st]
  have pV := sx_inv (t := t) (n := n) (a := a) hb x2 han (by rw [← hN]; exact f0)
  have kV := sx_keep (t := t) (n := n) (a := a) hb (show 4 ≤ V 1 3 by omega) (by omega)
  refine ⟨f0, fun M2 c' w' s' he ha hcc htop hkp hoo => ?_⟩
  rw [← hS] at he ha
  obtain ⟨u1, u2, u3⟩ := e_wt he
  have w0 : 0 < w' := by
    have := y3 (by omega)
    omega
  obtain ⟨v, rfl⟩ : ∃ v, w' = v + 1 := ⟨w' - 1, by omega⟩
  refine ⟨v, rfl, ?_⟩
  have top : M2 123 v = 100 := by
    have g := wt_w (u3 v (by omega))
    rcases htop with q | q
    · omega
    · rw [show v + 1 - 1 = v by omega] at q
      have z := stre0 (t := S 4 v) (by rw [g.1]; exact q)
      rcases u3 v (by omega) with q2 | q2 | q2 | q2
      · exact q2.2
      · omega
      · omega
      · have := opTwo_c q2.1
        omega
  obtain ⟨V', hV'⟩ : ∃ V', V' = sxM b t n V a := ⟨_, rfl⟩
  rw [← hV'] at pV kV hSx ⊢
  have b1 : 1 ≠ b := by omega
  have eV : V' = zup (zup (zup S 1 7 (v : Int)) 1 8 (O : Int)) 1 1 0 := by
    have z1 : S 1 7 - 1 = (v : Int) := by omega
    have z2 : S 1 8 - 1 = (O : Int) := by rw [s2 _ (by decide), er]; omega
    rw [hSx, st]
    dsimp only
    rw [z1, z2]
  have vr : ∀ j, j ≠ 7 → j ≠ 1 → j ≠ 8 → V' 1 j = V 1 j := fun j h1 h2 h3 => by
    rw [eV, zup_q, if_neg (fun q2 => h2 q2.2), zup_q, if_neg (fun q2 => h3 q2.2), zup_q, if_neg (fun q2 => h1 q2.2), s2 j h1, er]
  have vo : ∀ y, y ≠ 1 → V' y = S y := fun y h1 => by rw [eV, zup_ne _ _ _ h1, zup_ne _ _ _ h1, zup_ne _ _ _ h1]
  have vop : V' 1 8 = (O : Int) := by rw [eV, zup_q, if_neg (by decide), zup_q, if_pos ⟨rfl, rfl⟩]
  have vcm : V' 5 = V 5 := by rw [vo _ (by decide), s1 _ (by decide) (by omega), ec]
  obtain ⟨M3, m3⟩ : ∃ M3, M3 = zup (zup (zup M2 102 42 (v : Int)) 102 46 (O : Int)) 102 47 (M 126 O) := ⟨_, rfl⟩
  rw [← m3]
  have fM : ∀ j, j ≠ 47 → j ≠ 46 → j ≠ 42 → M3 102 j = M2 102 j := fun j p1 p2 p3 => by
    rw [m3, zup_q, if_neg (fun q2 => p1 q2.2), zup_q, if_neg (fun q2 => p2 q2.2), zup_q, if_neg (fun q2 => p3 q2.2)]
  have oM : ∀ y, y ≠ 102 → M3 y = M2 y := fun y p1 => by rw [m3, zup_ne _ _ _ p1, zup_ne _ _ _ p1, zup_ne _ _ _ p1]
  obtain ⟨j1, h1⟩ := e_drop (V' := V') (M' := M3) hb he top ⟨⟨fM _ (by decide) (by decide) (by decide), fM _ (by decide) (by decide) (by decide), by rw [m3, zup_q, if_neg (by decide), zup_q, if_neg (by decide), zup_q, if_pos ⟨rfl, rfl⟩]⟩, oM⟩ ⟨by rw [vo b (by omega)], vo _ (by omega), vo _ (by omega), vo _ (by omega), by rw [eV, zup_q, if_neg (by decide), zup_q, if_neg (by decide), zup_q, if_pos ⟨rfl, rfl⟩], vo _ (by decide)⟩
  obtain ⟨⟨p1, p2, p3⟩, p4, p5, p6⟩ := hkp
  obtain ⟨c1, c2, c3, c4, c5, c6, c7⟩ := hoo
  refine xI_mk hb x j1 (agr_t ha h1 (by omega)) pV ⟨?_, ?_⟩ ⟨?_, fun i hi => ?_, ?_, ?_⟩ (Or.inr ⟨rfl, ?_, ?_⟩) kV ⟨⟨?_, ?_, ?_⟩, ?_, ?_, ?_⟩
  · rw [fM _ (by decide) (by decide) (by decide), c6]; exact k1
  · rw [vo b (by omega), s3 _ (by decide), e4 b (by omega)]; exact k2
  · rw [vop, m3, zup_q, if_neg (by decide), zup_q, if_pos ⟨rfl, rfl⟩]
  · rw [vop] at hi
    rw [oM _ (by decide), c2, vcm]
    exact o2 i (by omega)
  · rw [vop, Int.toNat_natCast, vcm, m3, zup_q, if_pos ⟨rfl, rfl⟩]
    exact o2 O (by omega)
  · rw [fM _ (by decide) (by decide) (by decide), c4, vr _ (by decide) (by decide) (by decide)]
    exact o4
  · rw [fM _ (by decide) (by decide) (by decide), c5]; omega
  · rw [vr _ (by decide) (by decide) (by decide)]; exact hd
  · rw [fM _ (by decide) (by decide) (by decide)]; exact p1
  · rw [fM _ (by decide) (by decide) (by decide)]; exact p2
  · rw [fM _ (by decide) (by decide) (by decide)]; exact p3
  · rw [oM _ (by decide)]; exact p4
  · rw [oM _ (by decide)]; exact p5
  · rw [oM _ (by decide)]; exact p6
/-- behind an expression: all is settled in the reference -/
def xZ (b : Nat) (t : Nat → Int) (n : Nat) (V M : zM) (a o0 c w kn L : Nat) (s : List Nat) : Prop :=
  V 1 7 = (w : Int) ∧ eInv b (stlM b 1 w (nxM V t n a)) M o0 c 0 kn 1 s ∧ pInv b V ∧ (M 102 38 = (kn : Int) ∧ V b 9 = (kn : Int)) ∧ (V 1 8 = 0 ∧ V 1 3 = 5) ∧ ¬ opTwo (lxK t n a) ∧ lI b (stlM b 1 w (nxM V t n a)) M L o0 ∧ L < 12 ∧ (M 121 (12 + L) = (o0 : Int) ∧ M 120 (12 + L) = V 1 5 ∧ (1 ≤ V 1 5 ∧ V 1 5 ≤ 4))
theorem x_end {b : Nat} {t : Nat → Int} {n a : Nat} {V M M2 : zM} {o0 c w kn L c' w' : Nat} {s s' : List Nat} (hb : b = 6 ∨ b = 13) (x : xI b V M o0 c w kn 1 L s) (ho : V 1 8 = 0) (hn : ¬ opTwo (lxK t n a)) (he : eInv b (stlM b 1 w (nxM V t n a)) M2 o0 c' w' kn 1 s') (ha : agr (shM V M) (shM (stlM b 1 w (nxM V t n a)) M2) b (o0 + c)) (hkp : mKp M M2) (hkr : M2 102 38 = M 102 38) : xZ b t n V M2 a o0 c' w kn L s' := by
  obtain ⟨x1, x2, ⟨k1, k2⟩, ⟨o1, o2, o3, o4⟩, x5, x6, x7, x8, x9, x10⟩ := id x
  obtain ⟨k', y1, y2, y3⟩ := x_stl (t := t) (n := n) (a := a) hb x
  obtain ⟨t1, t2, t3⟩ := e_wt x1
  obtain ⟨u1, u2, u3⟩ := e_wt he
  have hw : w' = 0 := by
    have := y2 ho
    omega
  subst hw
  have hD := dKl_ok hb
  have kp : kpL b V (stlM b 1 w (nxM V t n a)) := kp_fr (fy_st hD w _ (fy_nx hD.2.2.2.2.2.2))
  have lg := lI_g hb x6 (agr_le ha (Nat.le_add_right _ _)) kp hkp
  obtain ⟨⟨p1, p2, p3⟩, p4, p5, p6⟩ := hkp
  exact ⟨t1, he, x2, ⟨by rw [hkr]; exact k1, k2⟩, ⟨ho, by omega⟩, hn, lg, x7, by rw [p5]; exact x8, by rw [p4]; exact x9, x10⟩
set_option maxHeartbeats 4000000 in
theorem r_expression {E : zE} {M M0 V : zM} {Q : Int → zM → Prop} {b : Nat} {t : Nat → Int} {n : Nat} {R : Int × zM} {k a o0 kn L : Nat} (hb : b = 6 ∨ b = 13) (h : tkS b t n R M V k a) (x : xI b V (zup (zup (zup (zup (zup (zup M 102 42 0) 102 44 0) 102 46 0) 102 47 0) 102 48 1) 102 49 1) o0 0 0 kn 0 L []) (fr : frP M0 M)
    (h1 : ∀ (M' V' : zM) (k' a' c' w' kn' : Nat) (s' : List Nat), tkS b t n R M' V' k' a' → k' ≤ k → xZ b t n V' M' a' o0 c' w' kn' L s' → frP M0 M' → Q 1 M') (h0 : ∀ M', fltS R M' → frQ M0 M' → Q 0 M') : zP E mX12_expression [.inr (.inr 102)] M Q := by
  refine vcX12_expression (fun m M' => ∃ (V' : zM) (a' c' w' kn' vl' : Nat) (s' : List Nat), m ≤ k ∧ tkS b t n R M' V' m a' ∧ xI b V' M' o0 c' w' kn' vl' L s' ∧ frP M0 M') ?_ ?_
  · intro M1 m1 M2 m2 M3 m3 M4 m4 M5 m5 M6 m6
    rw [m6, m5, m4, m3, m2, m1]
    exact ⟨k, V, a, 0, 0, kn, 0, [], Nat.le_refl _, tkS_c h (fz_up rfl (fz_up rfl (fz_up rfl (fz_up rfl (fz_up rfl (fz_up rfl (fun _ _ _ => rfl))))))), x, frP_t fr (fz_up rfl (fz_up rfl (fz_up rfl (fz_up rfl (fz_up rfl (fz_up rfl (fun _ _ _ => rfl)))))))⟩
  · rintro m M' ⟨V', a', c', w', kn', vl', s', hm, T, X, F⟩
    obtain ⟨x1, x2, ⟨k1, k2⟩, ⟨o1, o2, o3, o4⟩, x5, x6, x7, x8⟩ := id X
    obtain ⟨kn64, w72, ob⟩ := xI_b X
    obtain ⟨r1, r2, r3, r4⟩ := tkS_r T
    have kd := tkS_k T
    have hQ : xP b t n R o0 L m M0 (fun r30 M31 => ((zR r30) ∧ ((¬ r30 = 0 → ∃ n', n' < m ∧ (∃ (V' : zM) (a' c' w' kn' vl' : Nat) (s' : List Nat), n' ≤ k ∧ tkS b t n R M31 V' n' a' ∧ xI b V' M31 o0 c' w' kn' vl' L s' ∧ frP M0 M31)) ∧ (r30 = 0 → Q 0 M31)))) :=
      ⟨fun M2 V2 k2 a2 c2 w2 kn2 vl2 s2 q1 q2 q3 q4 => ⟨zRd rfl, fun _ => ⟨k2, q2, V2, a2, c2, w2, kn2, vl2, s2, by omega, q1, q3, q4⟩, fun q => absurd q (by decide)⟩, fun M2 q1 q2 => ⟨zRd rfl, fun q => absurd rfl q, fun _ => h0 M2 q1 q2⟩⟩
    have zo : zR (M' 102 46) := by rw [o1]; unfold zR; omega
    refine ⟨by unfold zR; omega, fun q0 => ?_, fun q0 => ?_⟩
    · have vl1 : vl' = 1 := by omega
      subst vl1
      have hd : V' 1 3 = 5 := by omega
      obtain ⟨e1, e2, e3, e4, e5⟩ := nxM_r V' t n a'
      have er : nxM V' t n a' 1 = V' 1 := e4 _ (by decide)
      have ew := e_wt x1
      have nv := nx_vS (t := t) (n := n) (a := a') (V := V') hb
      obtain ⟨j1, g1⟩ := e_g (V' := nxM V' t n a') (M' := M') hb x1 ⟨Nat.le_refl _, kn64⟩ (mS_r M' kn') nv
      have sgz : zR (sgF M') := by
        rcases sgF_k T with ⟨q1, q2, q3⟩ | ⟨q1, q2⟩
        · rw [q3]; exact (opTwo_w q2).2.1
        · rw [q1]; exact zRd rfl
      refine r_signNow r1 r2 r3 ⟨sgz, fun q1 => ?_, fun q1 => ?_⟩
      · have n2 : ¬ opTwo (lxK t n a') := by
          rcases sgF_k T with ⟨q2, q3, q4⟩ | ⟨q2, q3⟩
          · omega
          · exact q3
        have nt : ¬ (lxK t n a' = 2 ∨ lxK t n a' = 3) ∧ ¬ (21 ≤ lxK t n a' ∧ lxK t n a' ≤ 30) := by
          unfold opTwo at n2
          omega
        refine ⟨zo, fun q2 => ⟨zo, fun q3 => ?_, fun q3 => absurd q3 (by omega)⟩, fun q2 => ?_⟩
        · refine r_bind hb (by decide) w72 j1 ?_
          intro M2 c2 w2 s2 he fb ha hcc hww _
          obtain ⟨bk, -, -, -, -, -, b6, -⟩ := bn_kp fb
          have o0' : V' 1 8 = 0 := by omega
          exact h1 M2 V' m a' c2 w' kn' s2 (tkS_c T (bn_tc fb)) hm (x_end hb X o0' n2 he (agr_t g1 ha (Nat.le_refl _)) bk b6) (frP_t F (bn_pr fb))
        · refine r_isSign r1 r2 (by decide) ⟨ite01.1, fun q3 => ?_, fun q3 => ?_⟩
          · have q4 := ite01.2.mp q3
            refine ⟨zo, fun q5 => absurd q5 (by omega), fun _ => r_wrong (x_bad T (by omega) (f := 1) ?_ (by decide) rfl F hQ)⟩
            have n19 : lxK t n a' ≠ 19 := fun q5 => by
              rcases kd with q6 | q6 | q6 | q6 | q6 <;> omega
            have bad : sgBad (nxM V' t n a') := by
              unfold sgBad
              rw [e2]
              exact ⟨nt.1, by omega, Or.inl (by omega)⟩
            rw [stp_5 (by rw [er]; exact hd)]
            unfold stpB
            rw [if_neg (by rw [e2, er]; omega), if_neg (by rw [e2, er]; omega), if_pos bad]
          · have q4 : M' 102 19 = 3 ∧ M' 102 20 = 41 := Classical.byContradiction (fun q5 => q3 (ite01.2.mpr q5))
            have k19 : lxK t n a' = 19 := by omega
            obtain ⟨O, hO⟩ : ∃ O : Nat, V' 1 8 = (O : Int) + 1 := ⟨(V' 1 8 - 1).toNat, by omega⟩
            obtain ⟨f0, Y⟩ := x_close hb X T.2.1 k19 hO
            refine r_bind hb (by decide) w72 j1 ?_
            intro M20 c2 w2 s2 he fb ha hcc hww htop M21 m21 M22 m22
            obtain ⟨bk, bo⟩ := bn_kp fb
            obtain ⟨v, hv, Z⟩ := Y M20 c2 w2 s2 he (agr_t g1 ha (Nat.le_refl _)) hcc htop bk bo
            obtain ⟨u1, u2, u3⟩ := e_wt he
            have z1 : M20 102 42 - 1 = (v : Int) := by rw [u2, hv]; omega
            rw [z1] at m21
            have z2 : M21 102 46 - 1 = (O : Int) := by
              rw [m21, zup_q, if_neg (by decide), bo.1, o1, hO]
              omega
            rw [z2] at m22
            have z3 : M22 102 46 = (O : Int) := by rw [m22, zup_q, if_pos ⟨rfl, rfl⟩]
            have z4 : M22 126 = M' 126 := by rw [m22, zup_ne _ _ _ (by decide), m21, zup_ne _ _ _ (by decide)]; exact bo.2.1
            obtain ⟨-, -, -, -, -, -, hq⟩ := id x2
            obtain ⟨-, -, -, q4c, -⟩ := hq (by omega)
            rw [z3, z4, Int.toNat_natCast]
            refine ⟨by omega, ?_, fun M23 m23 => ?_⟩
            · rw [o2 O (by omega)]
              exact q4c O (by omega)
            · rw [← m21, ← m22, ← m23] at Z
              refine zP_Q (x_go hb T (by omega) f0 (by
                rw [m23, m22, m21]
                exact fz_up rfl (fz_up rfl (fz_up rfl (bn_tc fb)))) Z (frP_t (frP_t F (bn_pr fb)) (by
                rw [m23, m22, m21]
                exact fz_up rfl (fz_up rfl (fz_up rfl (fun _ _ _ => rfl))))) hQ) (fun r M25 hq2 => hq2.2.1 (by decide))
      · have op : opTwo (lxK t n a') ∧ sgF M' = opk (lxK t n a') := by
          rcases sgF_k T with ⟨q2, q3, q4⟩ | ⟨q2, q3⟩
          · exact ⟨q3, q4⟩
          · omega
        refine r_signNow r1 r2 r3 ?_
        exact r_joins hb T X op.1 op.2 F hQ
    · have vl0 : vl' = 0 := by omega
      subst vl0
      exact r_valueRead hb T X F hQ
