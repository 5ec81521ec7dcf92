/-! the reader of rules: a line, in the reference as in the class -/
def lP (b : Nat) (t : Nat → Int) (n : Nat) (R : Int × zM) (k : Nat) (M0 : zM) (Q : Int → zM → Prop) : Prop :=
  (∀ (M' V' : zM) (k' a' L' kn' o' : Nat), tkS b t n R M' V' k' a' → k' < k → lS b 0 V' M' L' kn' o' → frP M0 M' → Q 1 M') ∧ (∀ M', fltS R M' → frQ M0 M' → Q 0 M')
theorem l_bad {b : Nat} {t : Nat → Int} {n : Nat} {R : Int × zM} {M V Mx M0 : zM} {k k0 a : Nat} {f : Int} {Q : Int → zM → Prop} (h : tkS b t n R M V k a) (hd : ¬ (lxK t n a = 32 ∧ V 1 3 = 0)) (hf : (stpM b (nxM V t n a)).1 = f) (h0 : f ≠ 0) (e : Mx 102 21 = M 102 21) (fr : frP M0 Mx) (hQ : lP b t n R k0 M0 Q) : Q 0 (wgM Mx f) := by
  have g := (tk_step h hd).2 (by rw [hf]; exact h0)
  rw [hf] at g
  exact hQ.2 _ (flt_c g e) (frP_q fr (wg_pr Mx f))
theorem l_md {b : Nat} {t : Nat → Int} {n : Nat} {R : Int × zM} {M V Mx : zM} {k a : Nat} (h : tkS b t n R M V k a) (hd : ¬ (lxK t n a = 32 ∧ V 1 3 = 0)) (f0 : (stpM b (nxM V t n a)).1 = 0) (ft : tcF M Mx) : ∃ k', k = k' + 1 ∧ mdS b t n R Mx (sxM b t n V a) k' (lxE t n a) := by
  obtain ⟨k', e, md⟩ := (tk_step h hd).1 f0
  exact ⟨k', e, mdS_c md ft⟩
theorem lP_01 {b : Nat} {t : Nat → Int} {n : Nat} {R : Int × zM} {k : Nat} {M0 : zM} {Q : Int → zM → Prop} (h : lP b t n R k M0 Q) : lP b t n R k M0 (fun r M => (r = 0 ∨ r = 1) ∧ Q r M) :=
  ⟨fun M' V' k' a' L' kn' o' h1 h2 h3 h4 => ⟨Or.inr rfl, h.1 M' V' k' a' L' kn' o' h1 h2 h3 h4⟩, fun M' h1 h2 => ⟨Or.inl rfl, h.2 M' h1 h2⟩⟩
theorem uw_l {b : Nat} {V V' : zM} (hb : b = 6 ∨ b = 13) (h : uwF V V') : V' (b + 4) = V (b + 4) ∧ V' (b + 5) = V (b + 5) := by
  rcases hb with rfl | rfl <;> exact ⟨funext fun j => h _ _ rfl, funext fun j => h _ _ rfl⟩
/-- the sign that ends a line -/
theorem l_end {E : zE} {M V Mx M0 : zM} {Q : Int → zM → Prop} {b : Nat} {t : Nat → Int} {n : Nat} {R : Int × zM} {k k0 a L kn o : Nat} (hb : b = 6 ∨ b = 13) (h : tkS b t n R M V k a) (hd : V 1 3 ≠ 0) (ft : tcF M Mx) (hk : k ≤ k0) (y17 : lxK t n a = 17 → (stpM b (nxM V t n a)).1 = 0 ∧ lS b 0 (sxM b t n V a) Mx L kn o) (y1 : lxK t n a ≠ 17 → (stpM b (nxM V t n a)).1 = 1) (fr : frP M0 Mx) (hQ : lP b t n R k0 M0 Q) : zP E mX12_sign [.inr (.inr 102), .inl 59] Mx Q := by
  have T := tkS_c h ft
  obtain ⟨r1, r2, r3, r4⟩ := tkS_r T
  have kd := tkS_k T
  refine r_sign r1 r2 (by decide) (fun q => ?_) (fun q => l_bad T (fun q2 => hd q2.2) (y1 (fun q2 => q (by omega))) (by decide) rfl fr hQ)
  obtain ⟨f0, l⟩ := y17 (by omega)
  obtain ⟨k', e, md⟩ := l_md T (fun q2 => hd q2.2) f0 (fun _ _ _ => rfl)
  refine r_takeS md (fun M' q1 q2 q3 => ?_)
  exact hQ.1 M' _ k' _ L kn o q1 (by omega) (lS_tk hb l ⟨q2, q3⟩) (frP_t fr (tkF_pr ⟨q2, q3⟩))
theorem tk_l {b : Nat} {t : Nat → Int} {n : Nat} {R : Int × zM} {M V : zM} {k a : Nat} (h : tkS b t n R M V k a) : (M 102 19 = 1 ∧ M 102 20 = 0 ↔ lxK t n a = 0) ∧ (M 102 19 = 1 ∧ M 102 20 = 1 ↔ lxK t n a = 1) ∧ (M 102 19 = 0 ↔ lxK t n a = 32) ∧ (M 102 19 = 1 → 0 ≤ M 102 20) := by
  have c := tkS_k h
  refine ⟨by omega, by omega, by omega, by omega⟩
theorem due_32 {t : Nat → Int} {n a : Nat} {V : zM} {d : Int} (h : V 1 3 = d) (hd : d ≠ 0) : ¬ (lxK t n a = 32 ∧ V 1 3 = 0) := fun q => hd (h.symm.trans q.2)
set_option maxHeartbeats 1000000 in
theorem l_x0 {b : Nat} {V2 M10 : zM} {L kn o : Nat} (hb : b = 6 ∨ b = 13) (hL : L < 12) (ls2 : lS b 4 V2 M10 L kn o) (c1 : 1 ≤ V2 1 5 ∧ V2 1 5 ≤ 4) (c2 : V2 1 7 = 0) (c3 : V2 1 8 = 0) (c4 : V2 5 0 = 0) (c5 : V2 1 10 = 1) (f1 : M10 121 (12 + L) = (o : Int)) (f2 : M10 120 (12 + L) = V2 1 5) : xI b V2 (zup (zup (zup (zup (zup (zup M10 102 42 0) 102 44 0) 102 46 0) 102 47 0) 102 48 1) 102 49 1) o 0 0 kn 0 L [] := by
  obtain ⟨Mx, mx⟩ : ∃ Mx, Mx = zup (zup (zup (zup (zup (zup M10 102 42 0) 102 44 0) 102 46 0) 102 47 0) 102 48 1) 102 49 1 := ⟨_, rfl⟩
  rw [← mx]
  have xo : ∀ y, y ≠ 102 → Mx y = M10 y := fun y hy => by rw [mx, zup_ne _ _ _ hy, zup_ne _ _ _ hy, zup_ne _ _ _ hy, zup_ne _ _ _ hy, zup_ne _ _ _ hy, zup_ne _ _ _ hy]
  have xt : ∀ j, j ≠ 42 → j ≠ 44 → j ≠ 46 → j ≠ 47 → j ≠ 48 → j ≠ 49 → Mx 102 j = M10 102 j := fun j i1 i2 i3 i4 i5 i6 => by rw [mx, zup_q, if_neg (fun q => i6 q.2), zup_q, if_neg (fun q => i5 q.2), zup_q, if_neg (fun q => i4 q.2), zup_q, if_neg (fun q => i3 q.2), zup_q, if_neg (fun q => i2 q.2), zup_q, if_neg (fun q => i1 q.2)]
  have xw : Mx 102 42 = 0 ∧ Mx 102 44 = 0 ∧ Mx 102 46 = 0 ∧ Mx 102 47 = 0 ∧ Mx 102 48 = 1 ∧ Mx 102 49 = 1 := by
    rw [mx]
    refine ⟨?_, ?_, ?_, ?_, ?_, ?_⟩ <;> simp [zup_q]
  have k1 := ls2.2.2.1.2.1.1
  have k2 := ls2.2.2.1.2.1.2
  have hd := ls2.1
  have p2 := ls2.2.1
  have lsx : lS b 4 V2 Mx L kn o := lS_mk hb ls2 p2 hd ⟨⟨rfl, rfl, rfl⟩, rfl, rfl⟩ ⟨rfl, rfl, rfl⟩ ⟨by rw [xt _ (by decide) (by decide) (by decide) (by decide) (by decide) (by decide)]; exact k1, by rw [xt _ (by decide) (by decide) (by decide) (by decide) (by decide) (by decide)]; exact k2⟩ ⟨xt _ (by decide) (by decide) (by decide) (by decide) (by decide) (by decide), xt _ (by decide) (by decide) (by decide) (by decide) (by decide) (by decide), xt _ (by decide) (by decide) (by decide) (by decide) (by decide) (by decide)⟩ (fun y hy => xo y (by omega)) (fun i hi => by rw [xo 120 (by decide), xo 121 (by decide), xo 122 (by decide)]; exact ⟨rfl, rfl, rfl⟩)
  obtain ⟨n1, n2, n3, ⟨n4, n5⟩, ⟨n6, n7⟩, n8, n9, n10⟩ := lsx
  have eI : eInv b V2 Mx o 0 0 kn 0 [] := ⟨⟨n6, n7⟩, n9, n8, rfl, ⟨xw.2.1, trivial, rfl⟩, ⟨xw.1, c2⟩, fun i hi => by omega, fun i hi => by omega, by show 0 + (o + 0) ≤ kn; omega⟩
  refine ⟨eI, p2, ⟨n4, n5⟩, ⟨by rw [xw.2.2.1, c3], fun i hi => by omega, by rw [xw.2.2.2.1, c3]; exact c4.symm, by rw [xw.2.2.2.2.2, c5]⟩, Or.inl ⟨rfl, xw.2.2.2.2.1, hd⟩, n3, hL, ?_, ?_, c1⟩
  · rw [xo _ (by decide)]; exact f1
  · rw [xo _ (by decide)]; exact f2
set_option maxHeartbeats 1000000 in
theorem r_lineL {E : zE} {M4 M0 V1 : zM} {Q : Int → zM → Prop} {b : Nat} {t : Nat → Int} {n : Nat} {R : Int × zM} {k ka a9 L kn o : Nat} (hb : b = 6 ∨ b = 13) (T1 : tkS b t n R M4 V1 ka a9) (ls1 : lS b 3 V1 M4 L kn o) (hL : L < 12) (hk : ka < k) (fr4 : frP M0 M4) (hQ : lP b t n R k M0 Q) : zP E mX12_number [.inr (.inr 102), .inl 1, .inl 4] M4 (fun r5 M6 => ((zR r5) ∧ ((¬ r5 = 0 → (0 ≤ 12 + (M6 102 33) ∧ 12 + (M6 102 33) < 24) ∧ (∀ M7, M7 = zup M6 120 ((12 + (M6 102 33)).toNat) (M6 102 20) → (0 ≤ 12 + (M6 102 33) ∧ 12 + (M6 102 33) < 24) ∧ (∀ M8, M8 = zup M7 121 ((12 + (M6 102 33)).toNat) (M7 102 39) → (zP E mX12_take [.inr (.inr 102)] M8 (fun r9 M10 => (zP E mX12_expression [.inr (.inr 102)] M10 (fun r11 M12 => ((zR r11) ∧ ((¬ r11 = 0 → (0 ≤ 12 + (M6 102 33) ∧ 12 + (M6 102 33) < 24) ∧ (0 ≤ 12 + (M6 102 33) ∧ 12 + (M6 102 33) < 24) ∧ (∀ M13, M13 = zup M12 122 ((12 + (M6 102 33)).toNat) ((M12 102 39) - (M12 121 ((12 + (M6 102 33)).toNat))) → (∀ M14, M14 = zup M13 102 33 ((M13 102 33) + 1) → (zP E mX12_sign [.inr (.inr 102), .inl 59] M14 (fun r15 M16 => ((r15 = 0 ∨ r15 = 1) ∧ Q r15 M16)))))) ∧ (r11 = 0 → Q 0 M12)))))))))) ∧ (r5 = 0 → Q 0 M6)))) := by
  have dv := ls1.1
  have h3 := due_32 (t := t) (n := n) (a := a9) dv (by decide)
  have hl := ls1.2.2.1.1.1
  have ho := ls1.2.2.2.2.1.1
  have eL : (12 + M4 102 33).toNat = 12 + L := by rw [hl]; omega
  have bL : 0 ≤ 12 + M4 102 33 ∧ 12 + M4 102 33 < 24 := by rw [hl]; omega
  have f2 := (y_3 (b := b) (t := t) (n := n) (a := a9) dv).1
  refine r_number (tkS_r T1).1 (tkS_r T1).2.2.2 (zRd rfl) (zRd rfl) (fun q5 q6 => ?_) (fun q5 q6 => ⟨zRd rfl, fun q7 => absurd rfl q7, fun _ => l_bad T1 h3 (by rw [f2]; exact (jdg_k T1 (lo := 1) (hi := 4) (by decide)).2.1 q5 q6) (by decide) rfl fr4 hQ⟩) (fun q5 => ⟨zRd rfl, fun q7 => absurd rfl q7, fun _ => l_bad T1 h3 (by rw [f2]; exact (jdg_k T1 (lo := 1) (hi := 4) (by decide)).2.2 q5) (by decide) rfl fr4 hQ⟩)
  obtain ⟨-, uo2, d2, c1, c2, c3, c4, c5⟩ := y_3 (b := b) (t := t) (n := n) (a := a9) dv
  obtain ⟨j4, j5, j6⟩ := (jdg_k T1 (lo := 1) (hi := 4) (by decide)).1 q5 q6
  rw [j4] at f2
  rw [j5] at c1
  have p2 := sx_inv hb ls1.2.1 T1.2.1 f2
  rw [eL]
  refine ⟨zRd rfl, fun _ => ⟨bL, fun M7 m7' => ⟨bL, fun M8 m8' => ?_⟩⟩, fun q7 => absurd q7 (by decide)⟩
  have e7 : M7 102 39 = (o : Int) := by rw [m7', zup_ne _ _ _ (by decide)]; exact ho
  rw [e7, m7'] at m8'
  obtain ⟨kb, e2, md2⟩ := l_md (Mx := M8) T1 h3 f2 (by rw [m8']; exact fz_up rfl (fz_up rfl (fun _ _ _ => rfl)))
  obtain ⟨V2, hV2⟩ : ∃ V2, V2 = sxM b t n V1 a9 := ⟨_, rfl⟩
  rw [← hV2] at uo2 d2 c1 c2 c3 c4 c5 p2 md2
  have fr8 : frP M0 M8 := by
    rw [m8']
    exact frP_t fr4 (fz_up (dPr_l (by decide) _) (fz_up (dPr_l (by decide) _) (fun _ _ _ => rfl)))
  have vk : ∀ i, i ≤ 5 → V2 (b + i) = V1 (b + i) := fun i hi => uo2 _ (by omega) (by omega) (by omega)
  have vb2 : V2 b = V1 b := vk 0 (by decide)
  refine r_takeS md2 (fun M10 T2 g3 g4 => ?_)
  have fr10 := frP_t fr8 (tkF_pr ⟨g3, g4⟩)
  have th : ∀ j, j ≠ 18 → j ≠ 19 → j ≠ 20 → j ≠ 21 → M10 102 j = M4 102 j := fun j j1 j2 j3 j4 => by rw [g4 j j1 j2 j3 j4, m8', zup_ne _ _ _ (by decide), zup_ne _ _ _ (by decide)]
  have oo : ∀ y, y ≠ 102 → y ≠ 120 → y ≠ 121 → M10 y = M4 y := fun y h1 h2 h3 => by rw [g3 y h1, m8', zup_ne _ _ _ h3, zup_ne _ _ _ h2]
  have ol : ∀ j, M10 120 j = if j = 12 + L then M4 102 20 else M4 120 j := fun j => by
    rw [g3 _ (by decide), m8', zup_ne _ _ _ (by decide), zup_1]
  have of' : ∀ j, M10 121 j = if j = 12 + L then (o : Int) else M4 121 j := fun j => by
    rw [g3 _ (by decide), m8', zup_1, zup_ne _ _ _ (by decide)]
  have ls2 : lS b 4 V2 M10 L kn o := lS_mk hb ls1 p2 d2 ⟨⟨vk 1 (by decide), vk 2 (by decide), vk 3 (by decide)⟩, vk 4 (by decide), vk 5 (by decide)⟩ ⟨by rw [vb2], by rw [vb2], by rw [vb2]⟩ ⟨by rw [vb2, th _ (by decide) (by decide) (by decide) (by decide)]; exact ls1.2.2.1.2.1.1, by rw [vb2, th _ (by decide) (by decide) (by decide) (by decide)]; exact ls1.2.2.1.2.1.2⟩ ⟨th _ (by decide) (by decide) (by decide) (by decide), th _ (by decide) (by decide) (by decide) (by decide), th _ (by decide) (by decide) (by decide) (by decide)⟩ (fun y hy => oo y (by omega) (by omega) (by omega)) (fun i hi => ⟨by rw [ol, if_neg (by omega)], by rw [of', if_neg (by omega)], by rw [oo _ (by decide) (by decide) (by decide)]⟩)
  have xI0 := l_x0 hb hL ls2 (by rw [c1]; exact q6) c2 c3 c4 c5 (by rw [of', if_pos rfl]) (by rw [ol, if_pos rfl, c1])
  refine r_expression hb T2 xI0 fr10 (fun M12 V3 k3 a3' c3' w3 kn3 s3' T3 hk3 z fr12 => ⟨zRd rfl, fun _ => ⟨bL, bL, fun M13 m13 M14 m14 => ?_⟩, fun q7 => absurd q7 (by decide)⟩) (fun M12 z fr12 => ⟨zRd rfl, fun q7 => absurd rfl q7, fun _ => hQ.2 M12 z fr12⟩)
  have S0 := x_semi hb z T3.2.1
  have hz5 := z.2.2.2.2.1.2
  have z8 := z.2.2.2.2.2.2.1.1.1
  have z11 := z.2.2.2.2.2.2.2.2.1
  have zo := z.2.1.1.1
  have dif : M12 102 39 - M12 121 (12 + L) = (c3' : Int) := by
    rw [zo, z11]
    omega
  rw [dif] at m13
  have e13 : M13 102 33 + 1 = (L : Int) + 1 := by rw [m13, zup_ne _ _ _ (by decide), z8]
  rw [e13, m13] at m14
  exact l_end (k0 := k) hb T3 (by rw [hz5]; decide) (by
    rw [m14]
    exact fz_up rfl (fz_up rfl (fun _ _ _ => rfl))) (by omega) (by rw [m14]; exact S0.1) S0.2 (frP_t fr12 (by
    rw [m14]
    exact fz_up rfl (fz_up (dPr_l (by decide) _) (fun _ _ _ => rfl)))) (lP_01 hQ)
set_option maxHeartbeats 1000000 in
theorem r_lineK {E : zE} {M4 M0 V1 : zM} {Q : Int → zM → Prop} {b : Nat} {t : Nat → Int} {n : Nat} {R : Int × zM} {k ka a9 L kn o : Nat} (hb : b = 6 ∨ b = 13) (T1 : tkS b t n R M4 V1 ka a9) (ls1 : lS b 1 V1 M4 L kn o) (hk : ka < k) (fr4 : frP M0 M4) (hQ : lP b t n R k M0 Q) : zP E mX12_number [.inr (.inr 102), .inl 0, .inl 24] M4 (fun r21 M22 => ((zR r21) ∧ ((¬ r21 = 0 → (∀ M23, M23 = zup M22 102 36 1 → (∀ M24, M24 = zup M23 102 35 (M23 102 20) → (zP E mX12_take [.inr (.inr 102)] M24 (fun r25 M26 => (zP E mX12_sign [.inr (.inr 102), .inl 59] M26 (fun r27 M28 => ((r27 = 0 ∨ r27 = 1) ∧ Q r27 M28)))))))) ∧ (r21 = 0 → Q 0 M22)))) := by
  have dv := ls1.1
  have h3 := due_32 (t := t) (n := n) (a := a9) dv (by decide)
  have f2 := (y_1 (t := t) (n := n) (a := a9) hb dv).1
  refine r_number (tkS_r T1).1 (tkS_r T1).2.2.2 (zRd rfl) (zRd rfl) (fun q5 q6 => ?_) (fun q5 q6 => ⟨zRd rfl, fun q7 => absurd rfl q7, fun _ => l_bad T1 h3 (by rw [f2]; exact (jdg_k T1 (lo := 0) (hi := 24) (by decide)).2.1 q5 q6) (by decide) rfl fr4 hQ⟩) (fun q5 => ⟨zRd rfl, fun q7 => absurd rfl q7, fun _ => l_bad T1 h3 (by rw [f2]; exact (jdg_k T1 (lo := 0) (hi := 24) (by decide)).2.2 q5) (by decide) rfl fr4 hQ⟩)
  obtain ⟨-, uo2, ub2, d2⟩ := y_1 (t := t) (n := n) (a := a9) hb dv
  obtain ⟨j4, j5, j6⟩ := (jdg_k T1 (lo := 0) (hi := 24) (by decide)).1 q5 q6
  rw [j4] at f2
  rw [j5] at ub2
  have p2 := sx_inv hb ls1.2.1 T1.2.1 f2
  refine ⟨zRd rfl, fun _ M23 m23 M24 m24 => ?_, fun q7 => absurd q7 (by decide)⟩
  have e23 : M23 102 20 = M4 102 20 := by rw [m23, zup_q, if_neg (by decide)]
  rw [e23, m23] at m24
  obtain ⟨kb, e2, md2⟩ := l_md (Mx := M24) T1 h3 f2 (by rw [m24]; exact fz_up rfl (fz_up rfl (fun _ _ _ => rfl)))
  obtain ⟨V2, hV2⟩ : ∃ V2, V2 = sxM b t n V1 a9 := ⟨_, rfl⟩
  rw [← hV2] at uo2 ub2 d2 p2 md2
  have fr24 : frP M0 M24 := by
    rw [m24]
    exact frP_t fr4 (fz_up rfl (fz_up rfl (fun _ _ _ => rfl)))
  have t24 : ∀ j, j ≠ 36 → j ≠ 35 → M24 102 j = M4 102 j := fun j i1 i2 => by rw [m24, zup_q, if_neg (fun q => i2 q.2), zup_q, if_neg (fun q => i1 q.2)]
  have o24 : ∀ y, y ≠ 102 → M24 y = M4 y := fun y hy => by rw [m24, zup_ne _ _ _ hy, zup_ne _ _ _ hy]
  have vk : ∀ i, 1 ≤ i → i ≤ 5 → V2 (b + i) = V1 (b + i) := fun i h1 h5 => uo2 _ (by omega) (by omega) (by omega)
  have ls2 : lS b 2 V2 M24 L kn o := lS_mk hb ls1 p2 d2 ⟨⟨vk 1 (by decide) (by decide), vk 2 (by decide) (by decide), vk 3 (by decide) (by decide)⟩, vk 4 (by decide) (by decide), vk 5 (by decide) (by decide)⟩ ⟨by rw [ub2, if_neg (by decide), if_neg (by decide)], by rw [ub2, if_neg (by decide), if_neg (by decide)], by rw [ub2, if_neg (by decide), if_neg (by decide)]⟩ ⟨by rw [ub2, if_pos rfl, m24, zup_q, if_pos ⟨rfl, rfl⟩], by rw [ub2, if_neg (by decide), if_pos rfl, m24, zup_q, if_neg (by decide), zup_q, if_pos ⟨rfl, rfl⟩]⟩ ⟨t24 _ (by decide) (by decide), t24 _ (by decide) (by decide), t24 _ (by decide) (by decide)⟩ (fun y hy => o24 y (by omega)) (fun i hi => by rw [o24 120 (by decide), o24 121 (by decide), o24 122 (by decide)]; exact ⟨rfl, rfl, rfl⟩)
  refine r_takeS md2 (fun M26 T2 g3 g4 => ?_)
  have ls3 := lS_tk hb ls2 ⟨g3, g4⟩
  obtain ⟨a8', ha8⟩ : ∃ a8', a8' = lxE t n a9 := ⟨_, rfl⟩
  rw [← ha8] at T2
  obtain ⟨f3, uo3, d3⟩ := y_2 (b := b) (t := t) (n := n) (a := a8') d2
  refine l_end (k0 := k) (L := L) (kn := kn) (o := o) hb T2 (by rw [d2]; decide) (fun _ _ _ => rfl) (by omega) (fun q7 => ?_) (fun q7 => by rw [f3, if_neg q7]) (frP_t fr24 (tkF_pr ⟨g3, g4⟩)) (lP_01 hQ)
  rw [if_pos q7] at f3
  have wk : ∀ i, i ≤ 5 → sxM b t n V2 a8' (b + i) = V2 (b + i) := fun i hi => uo3 _ (by omega) (by omega)
  have vb3 : sxM b t n V2 a8' b = V2 b := wk 0 (by decide)
  exact ⟨f3, lS_mk hb ls3 (sx_inv hb p2 T2.2.1 f3) d3 ⟨⟨wk 1 (by decide), wk 2 (by decide), wk 3 (by decide)⟩, wk 4 (by decide), wk 5 (by decide)⟩ ⟨by rw [vb3], by rw [vb3], by rw [vb3]⟩ ⟨by rw [vb3]; exact ls3.2.2.1.2.1.1, by rw [vb3]; exact ls3.2.2.1.2.1.2⟩ ⟨rfl, rfl, rfl⟩ (fun _ _ => rfl) (fun _ _ => ⟨rfl, rfl, rfl⟩)⟩
set_option maxHeartbeats 1000000 in
theorem r_line {E : zE} {M M0 V : zM} {Q : Int → zM → Prop} {b : Nat} {t : Nat → Int} {n : Nat} {R : Int × zM} {k a L kn o : Nat} (hb : b = 6 ∨ b = 13) (h : tkS b t n R M V k a) (l : lS b 0 V M L kn o) (hk0 : M 102 19 ≠ 0) (fr : frP M0 M) (hQ : lP b t n R k M0 Q) : zP E mX12_line [.inr (.inr 102)] M Q := by
  have dv := l.1
  have l2 := l.2.1
  have a1 := l.2.2.1.1.1
  have a2 := l.2.2.1.1.2
  have a3 := l.2.2.1.2.1.1
  have a4 := l.2.2.1.2.1.2
  have a5 := l.2.2.1.2.2.1
  have h32 : ¬ (lxK t n a = 32 ∧ V 1 3 = 0) := fun q => hk0 ((tk_l h).2.2.1.mpr q.1)
  have hP1 := lP_01 hQ
  have bad : lxK t n a ≠ 0 → lxK t n a ≠ 1 → (stpM b (nxM V t n a)).1 = 1 := (y_0 (t := t) (n := n) (a := a) hb dv).2.2
  have zk := (tk_zk h).1
  have zw := (tk_zk h).2
  have zl : zR (M 102 33) := by rw [a1]; unfold zR; omega
  refine vcX12_line ?_
  refine ⟨zk, fun q1 => r_wrong (l_bad h h32 (bad (fun q => q1 ((tk_l h).1.mpr q).1) (fun q => q1 ((tk_l h).2.1.mpr q).1)) (by decide) rfl fr hP1), fun q1 => ⟨zw q1, fun q2 => ⟨zw q1, fun q3 => ⟨zl, fun q4 => ?_, fun q4 => ?_⟩, fun q3 => ⟨?_, fun q4 => ?_, fun q4 => ?_⟩⟩, fun q2 => r_wrong (l_bad h h32 (bad (fun q => ?_) (fun q => ?_)) (by decide) rfl fr hP1)⟩⟩
  · have w1 : M 102 20 = 1 := by
      have := (tk_l h).2.2.2 q1
      omega
    have k1 := (tk_l h).2.1.mp ⟨q1, w1⟩
    have hL : L < 12 := by omega
    obtain ⟨f1, uw1, d1⟩ := (y_0 (t := t) (n := n) (a := a) hb dv).2.1 k1
    rw [if_neg (by rw [a2]; omega)] at f1
    have p1 := sx_inv hb l2 h.2.1 f1
    obtain ⟨ka, e1, md1⟩ := l_md h h32 f1 (fun _ _ _ => rfl)
    obtain ⟨V1, hV1⟩ : ∃ V1, V1 = sxM b t n V a := ⟨_, rfl⟩
    rw [← hV1] at uw1 d1 p1 md1
    obtain ⟨u1, u2, u3, u4⟩ := uw_b hb uw1
    refine r_takeS md1 (fun M4 T1 g1 g2 => ?_)
    have ls1 : lS b 3 V1 M4 L kn o := lS_tk hb (lS_mk hb l p1 d1 ⟨⟨u2, u3, u4⟩, uw_l hb uw1⟩ ⟨by rw [u1], by rw [u1], by rw [u1]⟩ ⟨by rw [u1]; exact a3, by rw [u1]; exact a4⟩ ⟨rfl, rfl, rfl⟩ (fun _ _ => rfl) (fun _ _ => ⟨rfl, rfl, rfl⟩)) ⟨g1, g2⟩
    exact r_lineL hb T1 ls1 hL (by omega) (frP_t fr (tkF_pr ⟨g1, g2⟩)) hQ
  · have w1 : M 102 20 = 1 := by
      have := (tk_l h).2.2.2 q1
      omega
    have k1 := (tk_l h).2.1.mp ⟨q1, w1⟩
    refine r_wrong (l_bad h h32 (f := 2) ?_ (by decide) rfl fr hP1)
    rw [((y_0 (t := t) (n := n) (a := a) hb dv).2.1 k1).1, if_pos (by rw [a2]; omega)]
  · rw [a4]
    rcases l2.2.2.2.2.1 with q | q <;> rw [q] <;> exact zRd rfl
  · have k1 := (tk_l h).1.mp ⟨q1, q3⟩
    obtain ⟨f1, uw1, d1⟩ := (y_0 (t := t) (n := n) (a := a) hb dv).1 k1
    rw [if_pos (by rw [← a4]; exact q4)] at f1
    have p1 := sx_inv hb l2 h.2.1 f1
    obtain ⟨ka, e1, md1⟩ := l_md h h32 f1 (fun _ _ _ => rfl)
    obtain ⟨V1, hV1⟩ : ∃ V1, V1 = sxM b t n V a := ⟨_, rfl⟩
    rw [← hV1] at uw1 d1 p1 md1
    obtain ⟨u1, u2, u3, u4⟩ := uw_b hb uw1
    refine r_takeS md1 (fun M4 T1 g1 g2 => ?_)
    have ls1 : lS b 1 V1 M4 L kn o := lS_tk hb (lS_mk hb l p1 d1 ⟨⟨u2, u3, u4⟩, uw_l hb uw1⟩ ⟨by rw [u1], by rw [u1], by rw [u1]⟩ ⟨by rw [u1]; exact a3, by rw [u1]; exact a4⟩ ⟨rfl, rfl, rfl⟩ (fun _ _ => rfl) (fun _ _ => ⟨rfl, rfl, rfl⟩)) ⟨g1, g2⟩
    exact r_lineK hb T1 ls1 (by omega) (frP_t fr (tkF_pr ⟨g1, g2⟩)) hQ
  · have k1 := (tk_l h).1.mp ⟨q1, q3⟩
    refine r_wrong (l_bad h h32 (f := 3) ?_ (by decide) rfl fr hP1)
    rw [((y_0 (t := t) (n := n) (a := a) hb dv).1 k1).1, if_neg (by rw [← a4]; exact q4)]
  · have := ((tk_l h).1.mpr q).2
    omega
  · have := ((tk_l h).2.1.mpr q).2
    omega
