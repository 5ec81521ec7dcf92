/-! the reader of rules: a value, in the reference as in the class -/
def dTc (x j : Nat) : Bool := !((x == 102 && (j == 17 || j == 18 || j == 19 || j == 20 || j == 21)) || x == 103 || x == 112)
/-- the token's cells are the same -/
def tcF (M M' : zM) : Prop := ∀ x j, dTc x j = false → M' x j = M x j
theorem txQ_c {M M' : zM} {t : Nat → Int} {n : Nat} (h : txQ M t n) (f : tcF M M') : txQ M' t n := by
  obtain ⟨h1, h2, h3, h4, h5⟩ := h
  exact ⟨by rw [f _ _ rfl]; exact h1, h2, by rw [← h3]; exact funext fun j => f _ j rfl, h4, wds_e (funext fun j => f _ j rfl) h5⟩
theorem tkS_c {b : Nat} {t : Nat → Int} {n : Nat} {R : Int × zM} {M M' V : zM} {k a : Nat} (h : tkS b t n R M V k a) (f : tcF M M') : tkS b t n R M' V k a := by
  obtain ⟨h1, h2, h3, h4, h5, h6⟩ := h
  exact ⟨txQ_c h1 f, h2, by rw [f _ _ rfl]; exact h3, by rw [f _ _ rfl]; exact h4, by rw [f _ _ rfl, f 102 20 rfl]; exact h5, h6⟩
theorem mdS_c {b : Nat} {t : Nat → Int} {n : Nat} {R : Int × zM} {M M' V : zM} {k a : Nat} (h : mdS b t n R M V k a) (f : tcF M M') : mdS b t n R M' V k a := by
  obtain ⟨h1, h2, h3, h4⟩ := h
  exact ⟨txQ_c h1 f, h2, by rw [f _ _ rfl]; exact h3, h4⟩
theorem flt_c {R : Int × zM} {M Mx : zM} {f : Int} (h : fltS R (wgM M f)) (e : Mx 102 21 = M 102 21) : fltS R (wgM Mx f) := by
  obtain ⟨h1, h2, h3, h4⟩ := h
  unfold wgM at h3 h4 ⊢
  refine ⟨h1, h2, ?_, ?_⟩
  · rw [zup_q, if_neg (by decide), zup_q, if_pos ⟨rfl, rfl⟩] at h3 ⊢
    exact h3
  · rw [zup_q, if_pos ⟨rfl, rfl⟩] at h4 ⊢
    rw [e]
    exact h4
/-- how a piece of an expression may end: it goes on, or a fault is told -/
def xP (b : Nat) (t : Nat → Int) (n : Nat) (R : Int × zM) (o0 L k : Nat) (M0 : zM) (Q : Int → zM → Prop) : Prop :=
  (∀ (M' V' : zM) (k' a' c' w' kn' vl' : Nat) (s' : List Nat), tkS b t n R M' V' k' a' → k' < k → xI b V' M' o0 c' w' kn' vl' L s' → frP M0 M' → Q 1 M') ∧ (∀ M', fltS R M' → frQ M0 M' → Q 0 M')
theorem x_md {b : Nat} {t : Nat → Int} {n : Nat} {R : Int × zM} {M V Mx : zM} {k a : Nat} (h : tkS b t n R M V k a) (hd : V 1 3 ≠ 0) (f0 : (stpM b (nxM V t n a)).1 = 0) (ft : tcF M Mx) : ∃ k', k = k' + 1 ∧ mdS b t n R Mx (sxM b t n V a) k' (lxE t n a) := by
  obtain ⟨k', e, md⟩ := (tk_step h (fun q => hd q.2)).1 f0
  exact ⟨k', e, mdS_c md ft⟩
theorem x_bad {b : Nat} {t : Nat → Int} {n : Nat} {R : Int × zM} {M V Mx M0 : zM} {k k0 a o0 L : Nat} {f : Int} {Q : Int → zM → Prop} (h : tkS b t n R M V k a) (hd : V 1 3 ≠ 0) (hf : (stpM b (nxM V t n a)).1 = f) (h0 : f ≠ 0) (e : Mx 102 21 = M 102 21) (fr : frP M0 Mx) (hQ : xP b t n R o0 L k0 M0 Q) : Q 0 (wgM Mx f) := by
  have g := (tk_step h (fun q => hd q.2)).2 (by rw [hf]; exact h0)
  rw [hf] at g
  exact hQ.2 _ (flt_c g e) (frP_q fr (wg_pr Mx f))
theorem x_go {E : zE} {b : Nat} {t : Nat → Int} {n : Nat} {R : Int × zM} {M V Mx M0 : zM} {k a o0 c' w' kn' vl' L : Nat} {s' : List Nat} {Q : Int → zM → Prop} (hb : b = 6 ∨ b = 13) (h : tkS b t n R M V k a) (hd : V 1 3 ≠ 0) (f0 : (stpM b (nxM V t n a)).1 = 0) (ft : tcF M Mx) (x : xI b (sxM b t n V a) Mx o0 c' w' kn' vl' L s') (fr : frP M0 Mx) (hQ : xP b t n R o0 L k M0 Q) : zP E mX12_take [.inr (.inr 102)] Mx (fun _ M' => Q 1 M') := by
  obtain ⟨k', e, md⟩ := x_md h hd f0 ft
  refine r_takeS md (fun M' q1 q2 q3 => ?_)
  exact hQ.1 M' _ k' _ c' w' kn' vl' s' q1 (by omega) (xI_tk hb x ⟨q2, q3⟩) (frP_t fr (tkF_pr ⟨q2, q3⟩))
theorem uw_b {b : Nat} {V V' : zM} (hb : b = 6 ∨ b = 13) (h : uwF V V') : V' b = V b ∧ V' (b + 1) = V (b + 1) ∧ V' (b + 2) = V (b + 2) ∧ V' (b + 3) = V (b + 3) := by
  rcases hb with rfl | rfl <;> exact ⟨funext fun j => h _ _ rfl, funext fun j => h _ _ rfl, funext fun j => h _ _ rfl, funext fun j => h _ _ rfl⟩
theorem uw_r {V V' : zM} (h : uwF V V') : V' 1 7 = V 1 7 ∧ V' 4 = V 4 ∧ V' 1 8 = V 1 8 ∧ V' 5 = V 5 ∧ V' 1 10 = V 1 10 := ⟨h _ _ rfl, funext fun j => h _ _ rfl, h _ _ rfl, funext fun j => h _ _ rfl, h _ _ rfl⟩
theorem zup_1 (M : zM) (a i : Nat) (v : Int) (j : Nat) : zup M a i v a j = if j = i then v else M a j := by
  rw [zup_q]
  simp
theorem tk_s {b : Nat} {t : Nat → Int} {n : Nat} {R : Int × zM} {M V : zM} {k a : Nat} (h : tkS b t n R M V k a) : (M 102 19 = 3 ∧ M 102 20 = 40 ↔ lxK t n a = 18) ∧ (M 102 19 = 3 ∧ M 102 20 = 44 ↔ lxK t n a = 20) ∧ (M 102 19 = 3 ∧ M 102 20 = 41 ↔ lxK t n a = 19) ∧ (M 102 19 = 3 ∧ M 102 20 = 59 ↔ lxK t n a = 17) ∧ ((M 102 19 = 1 ∧ 12 ≤ M 102 20) ↔ (12 ≤ lxK t n a ∧ lxK t n a ≤ 15)) ∧ (M 102 19 = 1 → M 102 20 = lxK t n a) ∧ (M 102 19 = 3 ∧ M 102 20 = 8 ↔ lxK t n a = 22) := by
  have c := tkS_k h
  refine ⟨by omega, by omega, by omega, by omega, by omega, by omega, by omega⟩
theorem tk_zk {b : Nat} {t : Nat → Int} {n : Nat} {R : Int × zM} {M V : zM} {k a : Nat} (h : tkS b t n R M V k a) : zR (M 102 19) ∧ (M 102 19 = 1 → zR (M 102 20)) := by
  obtain ⟨r1, -, r3, -⟩ := tkS_r h
  exact ⟨by unfold zR; omega, fun q => by have := r3 q; unfold zR; omega⟩
theorem x_wz {b kn : Nat} {V V1 V2 V3 V4 : zM} (hb : b = 6 ∨ b = 13) (uw1 : uwF (zup V b 9 ((kn : Int) + 1)) V1) (uw2 : uwF V1 V2) (uw3 : uwF V2 V3) (uw4 : uwF V3 V4) : V4 b 7 = V b 7 := by
  rw [(uw_b hb uw4).1, (uw_b hb uw3).1, (uw_b hb uw2).1, (uw_b hb uw1).1, zup_q, if_neg (fun q => absurd q.2 (by decide))]
set_option maxHeartbeats 1000000 in
theorem x_win {b : Nat} {V M V1 V2 V3 V4 V5 V6 Mg : zM} {o0 c w kn L : Nat} {s : List Nat} {wh wk v : Int} (hb : b = 6 ∨ b = 13) (x : xI b V M o0 c w kn 0 L s) (hkn : kn < 64) (uw1 : uwF (zup V b 9 ((kn : Int) + 1)) V1) (uw2 : uwF V1 V2) (uw3 : uwF V2 V3) (uw4 : uwF V3 V4) (uw5 : uwF (zup (zup (zup (zup V4 (b + 1) (o0 + c) wh) (b + 2) (o0 + c) wk) (b + 3) (o0 + c) v) b 7 (((o0 + c : Nat) : Int) + 1)) V5) (uw6 : uwF V5 V6) (du6 : V6 1 3 = 5) (p6 : pInv b V6) (kv : kpL b V V6)
    (hwn : wnF kn M Mg) (g1 : Mg 102 38 = (kn : Int) + 1) (g2 : Mg 102 48 = 0) (g3 : Mg 113 (64 + kn) = 15) (g4 : Mg 117 (64 + kn) = wh) (g5 : Mg 118 (64 + kn) = wk) (g6 : Mg 116 (64 + kn) = v) (hwh : 5 ≤ wh ∧ wh ≤ 11) (hwk : 0 ≤ wk ∧ wk ≤ 3) (hv : 1 ≤ v ∧ v ≤ 48) : xI b V6 (doM Mg (o0 + c) s.length (64 + (kn : Int))) o0 (c + 1) w (kn + 1) 1 L (kn :: s) := by
  have b1 : 1 ≠ b := by omega
  have b2 : 1 ≠ b + 1 := by omega
  have b3 : 1 ≠ b + 2 := by omega
  have b4 : 1 ≠ b + 3 := by omega
  have c1 : 4 ≠ b := by omega
  have c2 : 4 ≠ b + 1 := by omega
  have c3 : 4 ≠ b + 2 := by omega
  have c4 : 4 ≠ b + 3 := by omega
  have e1 : 5 ≠ b := by omega
  have e2 : 5 ≠ b + 1 := by omega
  have e3 : 5 ≠ b + 2 := by omega
  have e4 : 5 ≠ b + 3 := by omega
  have f01 : b ≠ b + 1 := by omega
  have f02 : b ≠ b + 2 := by omega
  have f03 : b ≠ b + 3 := by omega
  have f12 : b + 1 ≠ b + 2 := by omega
  have f13 : b + 1 ≠ b + 3 := by omega
  have f23 : b + 2 ≠ b + 3 := by omega
  obtain ⟨a11, a12, a13, a14⟩ := uw_b hb uw1
  obtain ⟨a21, a22, a23, a24⟩ := uw_b hb uw2
  obtain ⟨a31, a32, a33, a34⟩ := uw_b hb uw3
  obtain ⟨a41, a42, a43, a44⟩ := uw_b hb uw4
  obtain ⟨a51, a52, a53, a54⟩ := uw_b hb uw5
  obtain ⟨a61, a62, a63, a64⟩ := uw_b hb uw6
  obtain ⟨d1, d2, d3, d4, d5⟩ := uw_r uw1
  obtain ⟨d21, d22, d23, d24, d25⟩ := uw_r uw2
  obtain ⟨d31, d32, d33, d34, d35⟩ := uw_r uw3
  obtain ⟨d41, d42, d43, d44, d45⟩ := uw_r uw4
  obtain ⟨d51, d52, d53, d54, d55⟩ := uw_r uw5
  obtain ⟨d61, d62, d63, d64, d65⟩ := uw_r uw6
  have wo := wn_o hwn
  have z5 : ∀ j, j ≠ 7 → V6 b j = zup V b 9 ((kn : Int) + 1) b j := fun j hj => by
    rw [a61, a51, zup_q, if_neg (fun q => hj q.2), zup_ne _ _ _ f03, zup_ne _ _ _ f02, zup_ne _ _ _ f01, a41, a31, a21, a11]
  have z6 : V6 b 7 = ((o0 + c : Nat) : Int) + 1 := by rw [a61, a51, zup_q, if_pos ⟨rfl, rfl⟩]
  have zr1 : ∀ j, V6 (b + 1) j = if j = o0 + c then wh else V (b + 1) j := fun j => by
    rw [a62, a52, zup_ne _ _ _ f01.symm, zup_ne _ _ _ f13, zup_ne _ _ _ f12, zup_1, a42, a32, a22, a12, zup_ne _ _ _ f01.symm]
  have zr2 : ∀ j, V6 (b + 2) j = if j = o0 + c then wk else V (b + 2) j := fun j => by
    rw [a63, a53, zup_ne _ _ _ f02.symm, zup_ne _ _ _ f23, zup_1, zup_ne _ _ _ f12.symm, a43, a33, a23, a13, zup_ne _ _ _ f02.symm]
  have zr3 : ∀ j, V6 (b + 3) j = if j = o0 + c then v else V (b + 3) j := fun j => by
    rw [a64, a54, zup_ne _ _ _ f03.symm, zup_1, zup_ne _ _ _ f23.symm, zup_ne _ _ _ f13.symm, a44, a34, a24, a14, zup_ne _ _ _ f03.symm]
  exact x_val (Mg := Mg) (V' := V6) hb x hkn (wn_mS hwn) wo.1 g1 g2 wo.2.1 p6 kv (fun j hj => ⟨by rw [zr1, if_neg (Nat.ne_of_lt hj)], by rw [zr2, if_neg (Nat.ne_of_lt hj)], by rw [zr3, if_neg (Nat.ne_of_lt hj)]⟩) z6 (by rw [z5 _ (by decide), zup_q, if_pos ⟨rfl, rfl⟩])
    ⟨by rw [d61, d51, zup_ne _ _ _ b1, zup_ne _ _ _ b4, zup_ne _ _ _ b3, zup_ne _ _ _ b2, d41, d31, d21, d1, zup_ne _ _ _ b1],
     by rw [d62, d52, zup_ne _ _ _ c1, zup_ne _ _ _ c4, zup_ne _ _ _ c3, zup_ne _ _ _ c2, d42, d32, d22, d2, zup_ne _ _ _ c1],
     by rw [d63, d53, zup_ne _ _ _ b1, zup_ne _ _ _ b4, zup_ne _ _ _ b3, zup_ne _ _ _ b2, d43, d33, d23, d3, zup_ne _ _ _ b1],
     by rw [d64, d54, zup_ne _ _ _ e1, zup_ne _ _ _ e4, zup_ne _ _ _ e3, zup_ne _ _ _ e2, d44, d34, d24, d4, zup_ne _ _ _ e1],
     by rw [d65, d55, zup_ne _ _ _ b1, zup_ne _ _ _ b4, zup_ne _ _ _ b3, zup_ne _ _ _ b2, d45, d35, d25, d5, zup_ne _ _ _ b1], du6⟩
    (Or.inr ⟨by rw [zr1, if_pos rfl]; exact hwh, g3, by rw [zr1, if_pos rfl]; exact g4.symm, by rw [zr2, if_pos rfl]; exact g5.symm, by rw [g5]; exact hwk, by rw [zr3, if_pos rfl]; exact g6.symm, by rw [g6]; exact hv⟩)
theorem due_n {V : zM} {d : Int} (h : V 1 3 = d) (hd : d ≠ 0) : V 1 3 ≠ 0 := by rw [h]; exact hd
theorem due_5 {b : Nat} {t : Nat → Int} {n a : Nat} {V : zM} {d : Int} (hb : b = 6 ∨ b = 13) (h : V 1 3 = d) (h4 : 4 ≤ d) (h5 : d ≠ 5) : kpL b V (sxM b t n V a) := sx_keep hb (by rw [h]; exact h4) (fun q => h5 (h.symm.trans q.1))
theorem p5_lt {k a b : Nat} (h : k = a + 1) (h2 : a = b + 1) : b < k := by omega
theorem l_64 {kn : Nat} (h : kn < 64) : ((64 : Int) + (kn : Int)).toNat = 64 + kn ∧ (0 ≤ (64 : Int) + (kn : Int) ∧ (64 : Int) + (kn : Int) < 128) ∧ zR ((64 : Int) + (kn : Int)) ∧ ¬ (64 : Int) + (kn : Int) < 0 ∧ 0 ≤ (64 : Int) + (kn : Int) := ⟨by omega, by omega, by unfold zR; omega, by omega, by omega⟩
set_option maxHeartbeats 1000000 in
/-- behind the comma -/
theorem r_win5 {E : zE} {M M0 V V1 V2 V3 V4 M16 : zM} {Q : Int → zM → Prop} {b : Nat} {t : Nat → Int} {n : Nat} {R : Int × zM} {k k4 a6 o0 c w kn L : Nat} {s : List Nat} {wh wk : Int} (hb : b = 6 ∨ b = 13) (x : xI b V M o0 c w kn 0 L s) (hkn : kn < 64) (ho : o0 + c < 64) (hls : s.length < 100) (T4 : tkS b t n R M16 V4 k4 a6) (hk4 : k4 < k) (uw1 : uwF (zup V b 9 ((kn : Int) + 1)) V1) (uw2 : uwF V1 V2) (uw3 : uwF V2 V3) (uw4 : uwF V3 V4) (du4 : V4 1 3 = 9) (ww4 : V4 1 11 = wh) (wk4 : V4 1 12 = wk) (p4 : pInv b V4) (kp4 : kpL b V V4) (w16 : wnF kn M M16)
    (a16 : M16 102 38 = (kn : Int) + 1 ∧ M16 113 (64 + kn) = 15 ∧ M16 117 (64 + kn) = wh ∧ M16 118 (64 + kn) = wk) (hwh : 5 ≤ wh ∧ wh ≤ 11) (hwk : 0 ≤ wk ∧ wk ≤ 3) (fr : frP M0 M) (hQ : xP b t n R o0 L k M0 Q) :
    zP E mX12_number [.inr (.inr 102), .inl 1, .inl 48] M16 (fun r17 M18 => ((zR r17) ∧ ((¬ r17 = 0 → (0 ≤ 64 + (kn : Int) ∧ 64 + (kn : Int) < 128) ∧ (∀ M19, M19 = zup M18 116 (64 + (kn : Int)).toNat (M18 102 20) → (zP E mX12_take [.inr (.inr 102)] M19 (fun r20 M21 => (zP E mX12_sign [.inr (.inr 102), .inl 41] M21 (fun r22 M23 => ((zR r22) ∧ ((¬ r22 = 0 → (∀ M24, M24 = zup M23 102 48 0 → (zP E mX12_done [.inr (.inr 102), .inl (64 + (kn : Int))] M24 (fun r25 M26 => Q 1 M26)))) ∧ (r22 = 0 → Q 0 M23))))))))) ∧ (r17 = 0 → Q 0 M18)))) := by
  obtain ⟨e64, bnd, -⟩ := l_64 hkn
  have i1 := x.1.1.1
  have i2 := x.1.1.2
  have hl := x.1.2.2.2.2.1.1
  have z4 := x_wz hb uw1 uw2 uw3 uw4
  rw [i2] at z4
  have fr16 := frP_t fr (wn_pr w16)
  obtain ⟨f5, uw5, du5⟩ := x_w5 (t := t) (n := n) (a := a6) hb du4 z4 ho
  refine r_number (tkS_r T4).1 (tkS_r T4).2.2.2 (zRd rfl) (zRd rfl) (fun q7 q8 => ?_) (fun q7 q8 => ⟨zRd rfl, fun q9 => absurd rfl q9, fun _ => x_bad T4 (due_n du4 (by decide)) (by rw [f5]; exact (jdg_k T4 (lo := 1) (hi := 48) (by decide)).2.1 q7 q8) (by decide) rfl fr16 hQ⟩) (fun q7 => ⟨zRd rfl, fun q9 => absurd rfl q9, fun _ => x_bad T4 (due_n du4 (by decide)) (by rw [f5]; exact (jdg_k T4 (lo := 1) (hi := 48) (by decide)).2.2 q7) (by decide) rfl fr16 hQ⟩)
  refine ⟨zRd rfl, fun _ => ⟨bnd, fun M19 m19 => ?_⟩, fun q9 => absurd q9 (by decide)⟩
  obtain ⟨j4, j5, j6⟩ := (jdg_k T4 (lo := 1) (hi := 48) (by decide)).1 q7 q8
  rw [j5, ww4, wk4] at uw5
  rw [j4] at f5
  rw [e64] at m19
  have p5 := sx_inv hb p4 T4.2.1 f5
  have kp5 := kp_t kp4 (due_5 (t := t) (n := n) (a := a6) hb du4 (by decide) (by decide))
  obtain ⟨ke, e5, md5⟩ := x_md (Mx := M19) T4 (due_n du4 (by decide)) f5 (by rw [m19]; exact fz_up rfl (fun _ _ _ => rfl))
  obtain ⟨V5, hV5⟩ : ∃ V5, V5 = sxM b t n V4 a6 := ⟨_, rfl⟩
  rw [← hV5] at uw5 du5 p5 kp5 md5
  have w19 : wnF kn M M19 := by
    rw [m19]
    exact fz_up (dWn_k kn (by decide)) w16
  obtain ⟨a1, a2, a3, a4⟩ := a16
  refine r_takeS md5 (fun M21 T5 g9 g10 => ?_)
  have w21 : wnF kn M M21 := fxt w19 (tkF_wn ⟨g9, g10⟩)
  have fr21 := frP_t fr (wn_pr w21)
  obtain ⟨a8, ha8⟩ : ∃ a8, a8 = lxE t n a6 := ⟨_, rfl⟩
  rw [← ha8] at T5
  obtain ⟨f6, uw6, du6⟩ := x_w6 (b := b) (t := t) (n := n) (a := a8) du5
  refine r_sign (tkS_r T5).1 (tkS_r T5).2.1 (by decide) (fun q9 => ?_) (fun q9 => ⟨zRd rfl, fun q10 => absurd rfl q10, fun _ => x_bad T5 (due_n du5 (by decide)) (by rw [f6, if_neg (fun q => q9 ((tk_s T5).2.2.1.mpr q))]) (by decide) rfl fr21 hQ⟩)
  rw [if_pos ((tk_s T5).2.2.1.mp q9)] at f6
  have p6 := sx_inv hb p5 T5.2.1 f6
  have kp6 := kp_t kp5 (due_5 (t := t) (n := n) (a := a8) hb du5 (by decide) (by decide))
  obtain ⟨kf, e6, md6⟩ := x_md T5 (due_n du5 (by decide)) f6 (fun _ _ _ => rfl)
  obtain ⟨V6, hV6⟩ : ∃ V6, V6 = sxM b t n V5 a8 := ⟨_, rfl⟩
  rw [← hV6] at uw6 du6 p6 kp6 md6
  refine r_takeS md6 (fun M23 T6 g11 g12 => ⟨zRd rfl, fun _ M24 m24 => ?_, fun q10 => absurd q10 (by decide)⟩)
  have w24 : wnF kn M M24 := by
    rw [m24]
    exact fz_up rfl (fxt w21 (tkF_wn ⟨g11, g12⟩))
  have th : ∀ j, j ≠ 18 → j ≠ 19 → j ≠ 20 → j ≠ 21 → j ≠ 48 → M24 102 j = M16 102 j := fun j j1 j2 j3 j4 j5 => by rw [m24, zup_q, if_neg (fun q => j5 q.2), g12 j j1 j2 j3 j4, g10 j j1 j2 j3 j4, m19, zup_ne _ _ _ (by decide)]
  have oo : ∀ y, y ≠ 102 → y ≠ 116 → M24 y = M16 y := fun y y1 y2 => by rw [m24, zup_ne _ _ _ y1, g11 y y1, g9 y y1, m19, zup_ne _ _ _ y2]
  have am : M24 116 (64 + kn) = M16 102 20 := by rw [m24, zup_ne _ _ _ (by decide), g11 _ (by decide), g9 _ (by decide), m19, zup_q, if_pos ⟨rfl, rfl⟩]
  have wo := wn_o w24
  have T7 : tkS b t n R (doM M24 (o0 + c) s.length (64 + (kn : Int))) V6 kf (lxE t n a8) := tkS_c T6 (by
    rw [m24]
    unfold doM
    exact fz_up rfl (fz_up rfl (fz_up rfl (fz_up rfl (fz_up rfl (fun _ _ _ => rfl))))))
  have X := x_win hb x hkn uw1 uw2 uw3 uw4 uw5 uw6 du6 p6 kp6 w24 (by rw [th _ (by decide) (by decide) (by decide) (by decide) (by decide)]; exact a1) (by rw [m24, zup_q, if_pos ⟨rfl, rfl⟩]) (by rw [oo _ (by decide) (by decide)]; exact a2) (by rw [oo _ (by decide) (by decide)]; exact a3) (by rw [oo _ (by decide) (by decide)]; exact a4) am hwh hwk q8
  refine r_done (o := o0 + c) (hh := s.length) (by rw [wo.2.2.1]; exact i1) ho (by rw [wo.2.2.2]; exact hl) hls ?_
  exact hQ.1 _ V6 kf _ (c + 1) w (kn + 1) 1 (kn :: s) T7 (Nat.lt_trans (p5_lt e5 e6) hk4) X (frP_t (frP_t fr (wn_pr w24)) (do_pr _ _ _ _))
set_option maxHeartbeats 1000000 in
theorem r_whatRead {E : zE} {M M0 V : zM} {Q : Int → zM → Prop} {b : Nat} {t : Nat → Int} {n : Nat} {R : Int × zM} {k a o0 c w kn L : Nat} {s : List Nat} (hb : b = 6 ∨ b = 13) (h : tkS b t n R M V k a) (x : xI b V M o0 c w kn 0 L s) (hk : 5 ≤ lxK t n a ∧ lxK t n a ≤ 11) (hw : M 102 20 = lxK t n a) (fr : frP M0 M) (hQ : xP b t n R o0 L k M0 Q) : zP E mX12_whatRead [.inr (.inr 102)] M Q := by
  have hd : V 1 3 = 4 := by
    have := x.2.2.2.2.1
    omega
  have k1 := x.2.2.1.1
  have k2 := x.2.2.1.2
  have kn64 := (xI_b x).1
  have ob := (xI_b x).2.2
  have o1 := x.2.2.2.1.1
  have ho : kn < 64 → o0 + c < 64 := fun q => by
    have nn := x.1.2.2.2.2.2.2.2.2
    omega
  have hls : s.length < 100 := by
    have l64 := (chn_l c s x.1.2.2.2.1).1
    have nn := x.1.2.2.2.2.2.2.2.2
    omega
  obtain ⟨f1, f1', uw1, du1, ww1⟩ := x_w1 (t := t) (n := n) (a := a) hb hd hk k2
  refine vcX12_whatRead ?_
  refine r_grown k1 kn64 (fun q => ⟨(l_64 q).2.2.1, fun _ => ⟨(l_64 q).2.1, fun M3 m3 => ?_⟩, fun q2 => absurd q2 (l_64 q).2.2.2.1⟩) (fun q => ⟨zRd rfl, fun q2 => absurd q2 (by decide), fun _ => x_bad h (due_n hd (by decide)) (f1' (Nat.le_of_eq q.symm)) (by decide) rfl fr hQ⟩)
  obtain ⟨y1, y2, y3, y4, y5⟩ := gw_q M kn 15 0
  have f1 := f1 q
  have ho := ho q
  have p1 := sx_inv (t := t) (n := n) (a := a) hb x.2.1 h.2.1 f1
  have kp1 := due_5 (t := t) (n := n) (a := a) hb hd (by decide) (by decide)
  obtain ⟨V1, hV1⟩ : ∃ V1, V1 = sxM b t n V a := ⟨_, rfl⟩
  rw [← hV1] at uw1 du1 ww1 p1 kp1
  rw [(l_64 q).1, y2 _ (by decide), hw] at m3
  have w3 : wnF kn M M3 := by
    rw [m3]
    exact fz_up (dWn_k kn (by decide)) (gw_wn M kn 15 0)
  have t3 : tcF M M3 := by
    rw [m3]
    unfold gwM
    exact fz_up rfl (fz_up rfl (fz_up rfl (fz_up rfl (fz_up rfl (fz_up rfl (fun _ _ _ => rfl))))))
  have a3 : M3 102 38 = (kn : Int) + 1 ∧ M3 113 (64 + kn) = 15 ∧ M3 117 (64 + kn) = lxK t n a := by
    refine ⟨?_, ?_, ?_⟩
    · rw [m3, zup_ne _ _ _ (by decide)]; exact y1
    · rw [m3, zup_ne _ _ _ (by decide)]; exact y3
    · rw [m3, zup_q, if_pos ⟨rfl, rfl⟩]
  obtain ⟨ka, e1, md1⟩ := x_md h (due_n hd (by decide)) f1 t3
  rw [← hV1] at md1
  refine r_takeS md1 (fun M5 T1 g1 g2 => ?_)
  have w5 : wnF kn M M5 := fxt w3 (tkF_wn ⟨g1, g2⟩)
  have a5 : M5 102 38 = (kn : Int) + 1 ∧ M5 113 (64 + kn) = 15 ∧ M5 117 (64 + kn) = lxK t n a := by rw [g2 _ (by decide) (by decide) (by decide) (by decide), g1 _ (by decide), g1 _ (by decide)]; exact a3
  have op5 : M5 102 46 = V 1 8 := by rw [(wn_o w5).2.1.1]; exact o1
  have b1 : 1 ≠ b := by omega
  have vo1 : V1 1 8 = V 1 8 := by rw [(uw_r uw1).2.2.1, zup_ne _ _ _ b1]
  obtain ⟨f2, uw2, du2, ww2⟩ := x_w2 (b := b) (t := t) (n := n) (a := lxE t n a) du1
  rw [vo1] at f2
  have fr5 := frP_t fr (wn_pr w5)
  refine r_isSign (tkS_r T1).1 (tkS_r T1).2.1 (by decide) ⟨ite01.1, fun q1 => ?_, fun q1 => ?_⟩
  · have q2 := ite01.2.mp q1
    refine r_sign (tkS_r T1).1 (tkS_r T1).2.1 (by decide) (fun q3 => absurd q3 q2) (fun _ => ⟨zRd rfl, fun q3 => absurd rfl q3, fun _ => x_bad T1 (due_n du1 (by decide)) (by rw [f2, if_neg (fun q3 => q2 ((tk_s T1).1.mpr q3))]) (by decide) rfl fr5 hQ⟩)
  · have q2 : M5 102 19 = 3 ∧ M5 102 20 = 40 := Classical.byContradiction (fun q3 => q1 (ite01.2.mpr q3))
    rw [if_pos ((tk_s T1).1.mp q2)] at f2
    rw [op5]
    have zo : zR (V 1 8) := by unfold zR; omega
    refine ⟨zo, fun q8 => ?_, fun q8 => r_wrong ⟨Or.inl rfl, x_bad T1 (due_n du1 (by decide)) (by rw [f2, if_neg (by rw [q8]; decide)]) (by decide) rfl fr5 hQ⟩⟩
    refine r_sign (tkS_r T1).1 (tkS_r T1).2.1 (by decide) (fun _ => ?_) (fun q3 => absurd q2 q3)
    have o8 : V 1 8 < 8 := by omega
    rw [if_pos o8] at f2
    have p2 := sx_inv hb p1 T1.2.1 f2
    have kp2 := kp_t kp1 (due_5 (t := t) (n := n) (a := lxE t n a) hb du1 (by decide) (by decide))
    obtain ⟨kb, e2, md2⟩ := x_md T1 (due_n du1 (by decide)) f2 (fun _ _ _ => rfl)
    have lb : kb < k := p5_lt e1 e2
    obtain ⟨V2, hV2⟩ : ∃ V2, V2 = sxM b t n V1 (lxE t n a) := ⟨_, rfl⟩
    rw [← hV2] at uw2 du2 ww2 p2 kp2 md2
    refine r_takeS md2 (fun M9 T2 g3 g4 => ⟨zRd rfl, fun _ => ?_, fun q3 => absurd q3 (by decide)⟩)
    have w9 : wnF kn M M9 := fxt w5 (tkF_wn ⟨g3, g4⟩)
    have a9 : M9 102 38 = (kn : Int) + 1 ∧ M9 113 (64 + kn) = 15 ∧ M9 117 (64 + kn) = lxK t n a := by rw [g4 _ (by decide) (by decide) (by decide) (by decide), g3 _ (by decide), g3 _ (by decide)]; exact a5
    have fr9 := frP_t fr (wn_pr w9)
    obtain ⟨a2, ha2⟩ : ∃ a2, a2 = lxE t n (lxE t n a) := ⟨_, rfl⟩
    rw [← ha2] at T2
    obtain ⟨f3, uw3, du3, ww3, wk3⟩ := x_w3 (b := b) (t := t) (n := n) (a := a2) du2
    have bad3 : ¬ (M9 102 19 = 1 ∧ 12 ≤ M9 102 20) → (stpM b (nxM V2 t n a2)).1 = 1 := fun q3 => by rw [f3, if_neg (fun q4 => q3 ((tk_s T2).2.2.2.2.1.mpr q4))]
    refine ⟨(tk_zk T2).1, fun q3 => r_wrong ⟨Or.inl rfl, x_bad T2 (due_n du2 (by decide)) (bad3 (fun q4 => q3 q4.1)) (by decide) rfl fr9 hQ⟩, fun q3 => ⟨(tk_zk T2).2 q3, fun q4 => ⟨(l_64 q).2.1, fun M12 m12 => ?_⟩, fun q4 => r_wrong ⟨Or.inl rfl, x_bad T2 (due_n du2 (by decide)) (bad3 (fun q5 => absurd q5.2 (Int.not_le.mpr q4))) (by decide) rfl fr9 hQ⟩⟩⟩
    have e3w : M9 102 20 = lxK t n a2 := (tk_s T2).2.2.2.2.2.1 q3
    have r3w := (tk_s T2).2.2.2.2.1.mp ⟨q3, q4⟩
    rw [(l_64 q).1, e3w] at m12
    rw [if_pos r3w] at f3
    have p3 := sx_inv hb p2 T2.2.1 f3
    have kp3 := kp_t kp2 (due_5 (t := t) (n := n) (a := a2) hb du2 (by decide) (by decide))
    obtain ⟨kc, e3, md3⟩ := x_md (Mx := M12) T2 (due_n du2 (by decide)) f3 (by rw [m12]; exact fz_up rfl (fun _ _ _ => rfl))
    obtain ⟨V3, hV3⟩ : ∃ V3, V3 = sxM b t n V2 a2 := ⟨_, rfl⟩
    rw [← hV3] at uw3 du3 ww3 wk3 p3 kp3 md3
    have w12 : wnF kn M M12 := by
      rw [m12]
      exact fz_up (dWn_k kn (by decide)) w9
    have a12 : M12 102 38 = (kn : Int) + 1 ∧ M12 113 (64 + kn) = 15 ∧ M12 117 (64 + kn) = lxK t n a ∧ M12 118 (64 + kn) = lxK t n a2 - 12 := by
      rw [m12, zup_ne _ _ _ (by decide), zup_ne _ _ _ (by decide), zup_ne _ _ _ (by decide), zup_q, if_pos ⟨rfl, rfl⟩]
      exact ⟨a9.1, a9.2.1, a9.2.2, rfl⟩
    refine r_takeS md3 (fun M14 T3 g5 g6 => ?_)
    have w14 : wnF kn M M14 := fxt w12 (tkF_wn ⟨g5, g6⟩)
    have a14 : M14 102 38 = (kn : Int) + 1 ∧ M14 113 (64 + kn) = 15 ∧ M14 117 (64 + kn) = lxK t n a ∧ M14 118 (64 + kn) = lxK t n a2 - 12 := by rw [g6 _ (by decide) (by decide) (by decide) (by decide), g5 _ (by decide), g5 _ (by decide), g5 _ (by decide)]; exact a12
    have fr14 := frP_t fr (wn_pr w14)
    obtain ⟨a4, ha4⟩ : ∃ a4, a4 = lxE t n a2 := ⟨_, rfl⟩
    rw [← ha4] at T3
    obtain ⟨f4, uw4, du4, ww4, wk4⟩ := x_w4 (b := b) (t := t) (n := n) (a := a4) du3
    refine r_sign (tkS_r T3).1 (tkS_r T3).2.1 (by decide) (fun q5 => ?_) (fun q5 => ⟨zRd rfl, fun _ => x_bad T3 (due_n du3 (by decide)) (by rw [f4, if_neg (fun q6 => q5 ((tk_s T3).2.1.mpr q6))]) (by decide) rfl fr14 hQ, fun q6 => absurd rfl q6⟩)
    rw [if_pos ((tk_s T3).2.1.mp q5)] at f4
    have p4 := sx_inv hb p3 T3.2.1 f4
    have kp4 := kp_t kp3 (due_5 (t := t) (n := n) (a := a4) hb du3 (by decide) (by decide))
    obtain ⟨kd, e4, md4⟩ := x_md T3 (due_n du3 (by decide)) f4 (fun _ _ _ => rfl)
    have ld : kd < k := Nat.lt_trans (p5_lt e3 e4) lb
    obtain ⟨V4, hV4⟩ : ∃ V4, V4 = sxM b t n V3 a4 := ⟨_, rfl⟩
    rw [← hV4] at uw4 du4 ww4 wk4 p4 kp4 md4
    refine r_takeS md4 (fun M16 T4 g7 g8 => ⟨zRd rfl, fun q6 => absurd q6 (by decide), fun _ => ?_⟩)
    have w16 : wnF kn M M16 := fxt w14 (tkF_wn ⟨g7, g8⟩)
    have a16 : M16 102 38 = (kn : Int) + 1 ∧ M16 113 (64 + kn) = 15 ∧ M16 117 (64 + kn) = lxK t n a ∧ M16 118 (64 + kn) = lxK t n a2 - 12 := by rw [g8 _ (by decide) (by decide) (by decide) (by decide), g7 _ (by decide), g7 _ (by decide), g7 _ (by decide)]; exact a14
    exact r_win5 hb x q ho hls T4 ld uw1 uw2 uw3 uw4 du4 (by rw [ww4, ww3, ww2, ww1]) (by rw [wk4, wk3]) p4 kp4 w16 a16 hk ⟨Int.sub_nonneg_of_le r3w.1, Int.sub_le_sub_right r3w.2 12⟩ fr hQ
