/-! the reader of rules: what stands where a value is wanted -/
theorem xP_01 {b : Nat} {t : Nat → Int} {n : Nat} {R : Int × zM} {o0 L k : Nat} {M0 : zM} {Q : Int → zM → Prop} (h : xP b t n R o0 L k M0 Q) : xP b t n R o0 L k M0 (fun r M => (r = 0 ∨ r = 1) ∧ Q r M) :=
  ⟨fun M' V' k' a' c' w' kn' vl' s' h1 h2 h3 h4 => ⟨Or.inr rfl, h.1 M' V' k' a' c' w' kn' vl' s' h1 h2 h3 h4⟩, fun M' h1 h2 => ⟨Or.inl rfl, h.2 M' h1 h2⟩⟩
set_option maxHeartbeats 4000000 in
theorem r_valueRead {E : zE} {M M0 V : zM} {Q : Int → zM → Prop} {b : Nat} {t : Nat → Int} {n : Nat} {R : Int × zM} {k a o0 c w kn L : Nat} {s : List Nat} (hb : b = 6 ∨ b = 13) (h : tkS b t n R M V k a) (x : xI b V M o0 c w kn 0 L s) (fr : frP M0 M) (hQ : xP b t n R o0 L k M0 Q) : zP E mX12_valueRead [.inr (.inr 102)] M Q := by
  obtain ⟨x1, x2, ⟨k1, k2⟩, ⟨o1, o2, o3, o4⟩, x5, x6, x7, x8⟩ := id x
  have hd : V 1 3 = 4 := by omega
  obtain ⟨kn64, w72, ob⟩ := xI_b x
  have i1 := x1.1.1
  have hl := x1.2.2.2.2.1.1
  have nn := x1.2.2.2.2.2.2.2.2
  have l64 := (chn_l c s x1.2.2.2.1).1
  obtain ⟨t1, t2, t3⟩ := e_wt x1
  obtain ⟨r1, r2, r3, r4⟩ := tkS_r h
  have kd := tkS_k h
  have zk : zR (M 102 19) := by unfold zR; omega
  have zw : M 102 19 = 1 → zR (M 102 20) := fun q => by have := r3 q; unfold zR; omega
  have hP1 := xP_01 hQ
  obtain ⟨e1, e2, e3, e4, e5⟩ := nxM_r V t n a
  have er : nxM V t n a 1 = V 1 := e4 _ (by decide)
  obtain ⟨-, -, -, -, -, -, hq⟩ := id x2
  obtain ⟨-, -, q3n, q4c, -⟩ := hq (by omega)
  have num : ¬ (M 102 19 = 3 ∧ M 102 20 = 40) → ¬ (M 102 19 = 3 ∧ M 102 20 = 8) → ¬ (M 102 19 = 1 ∧ M 102 20 = 4 ∧ ¬ M 102 49 = 0) → ¬ (M 102 19 = 1 ∧ 5 ≤ M 102 20 ∧ M 102 20 ≤ 11) → (zP E mX12_number [.inr (.inr 102), .inl 0, .inl 99999] M (fun r5 M6 => ((zR r5) ∧ ((¬ r5 = 0 → (zP E mX12_grown [.inr (.inr 102), .inl 0, .inl (M6 102 20)] M6 (fun r7 M8 => ((zR r7) ∧ ((0 ≤ r7 → (∀ M9, M9 = zup M8 102 48 0 → (zP E mX12_take [.inr (.inr 102)] M9 (fun r10 M11 => (zP E mX12_done [.inr (.inr 102), .inl r7] M11 (fun r12 M13 => Q 1 M13)))))) ∧ (r7 < 0 → Q 0 M8)))))) ∧ (r5 = 0 → Q 0 M6))))) := by
    intro p1 p2 p3 p4
    refine r_number r1 r4 (zRd rfl) (zRd rfl) (fun q1 q2 => ?_) (fun q1 q2 => ⟨zRd rfl, fun q3 => absurd rfl q3, fun _ => ?_⟩) (fun q1 => ⟨zRd rfl, fun q3 => absurd rfl q3, fun _ => ?_⟩)
    · obtain ⟨k16, hv, hv0⟩ : lxK t n a = 16 ∧ nmq (M 102 20) (lxN t n a) ∧ 0 ≤ M 102 20 := by
        rcases kd with q4 | q4 | ⟨q4, q5, q6, q7⟩ | q4 | q4
        · omega
        · omega
        · exact ⟨q4, q6, q7⟩
        · omega
        · omega
      obtain ⟨N1, N2, N3⟩ := x_num hb x h.2.1 k16 hv hv0
      refine ⟨zRd rfl, fun _ => r_grown k1 kn64 (fun q3 => ⟨by unfold zR; omega, fun _ M9 m9 => ?_, fun q4 => absurd q4 (by omega)⟩) (fun q3 => ⟨zRd rfl, fun q4 => absurd q4 (by decide), fun _ => x_bad h (by omega) (N2 (by omega) q3) (by decide) rfl fr hQ⟩), fun q3 => absurd q3 (by decide)⟩
      obtain ⟨f0, X⟩ := N1 (by omega) q3
      have w9 : wnF kn M M9 := by
        rw [m9]
        exact fz_up rfl (gw_wn M kn 0 (M 102 20))
      obtain ⟨k', e, md⟩ := x_md (Mx := M9) h (by omega) f0 (by
        rw [m9]
        unfold gwM
        exact fz_up rfl (fz_up rfl (fz_up rfl (fz_up rfl (fz_up rfl (fz_up rfl (fun _ _ _ => rfl)))))))
      refine r_takeS md (fun M11 T g1 g2 => ?_)
      have w11 : wnF kn M M11 := fxt w9 (tkF_wn ⟨g1, g2⟩)
      have wo := wn_o w11
      rw [m9] at g1 g2
      have T7 : tkS b t n R (doM M11 (o0 + c) s.length (64 + (kn : Int))) (sxM b t n V a) k' (lxE t n a) := tkS_c T (by
        unfold doM
        exact fz_up rfl (fz_up rfl (fz_up rfl (fz_up rfl (fun _ _ _ => rfl)))))
      refine r_done (o := o0 + c) (hh := s.length) (by rw [wo.2.2.1]; exact i1) (by omega) (by rw [wo.2.2.2]; exact hl) (by omega) ?_
      exact hQ.1 _ _ k' _ (c + 1) w (kn + 1) 1 (kn :: s) T7 (by omega) (X M11 ⟨g1, g2⟩) (frP_t (frP_t fr (wn_pr w11)) (do_pr _ _ _ _))
    · obtain ⟨k16, hv, hv0⟩ : lxK t n a = 16 ∧ nmq (M 102 20) (lxN t n a) ∧ 0 ≤ M 102 20 := by
        rcases kd with q4 | q4 | ⟨q4, q5, q6, q7⟩ | q4 | q4
        · omega
        · omega
        · exact ⟨q4, q6, q7⟩
        · omega
        · omega
      exact x_bad h (by omega) ((x_num hb x h.2.1 k16 hv hv0).2.2 (by omega)) (by decide) rfl fr hQ
    · refine x_bad h (by omega) (f := 1) ?_ (by decide) rfl fr hQ
      rw [stp_4 (by rw [er]; exact hd)]
      unfold stpA
      rw [e2, er, if_neg (by omega), if_neg (by omega), if_neg (by omega), if_neg (by omega), if_neg (by omega)]
  have wd : ¬ (M 102 19 = 3 ∧ M 102 20 = 40) → ¬ (M 102 19 = 3 ∧ M 102 20 = 8) → ¬ (M 102 19 = 1 ∧ M 102 20 = 4 ∧ ¬ M 102 49 = 0) → ((zR (M 102 19)) ∧ ((¬ (M 102 19) = 1 → (zP E mX12_number [.inr (.inr 102), .inl 0, .inl 99999] M (fun r5 M6 => ((zR r5) ∧ ((¬ r5 = 0 → (zP E mX12_grown [.inr (.inr 102), .inl 0, .inl (M6 102 20)] M6 (fun r7 M8 => ((zR r7) ∧ ((0 ≤ r7 → (∀ M9, M9 = zup M8 102 48 0 → (zP E mX12_take [.inr (.inr 102)] M9 (fun r10 M11 => (zP E mX12_done [.inr (.inr 102), .inl r7] M11 (fun r12 M13 => Q 1 M13)))))) ∧ (r7 < 0 → Q 0 M8)))))) ∧ (r5 = 0 → Q 0 M6)))))) ∧ ((M 102 19) = 1 → ((zR (M 102 20)) ∧ (((M 102 20) < 5 → (zP E mX12_number [.inr (.inr 102), .inl 0, .inl 99999] M (fun r5 M6 => ((zR r5) ∧ ((¬ r5 = 0 → (zP E mX12_grown [.inr (.inr 102), .inl 0, .inl (M6 102 20)] M6 (fun r7 M8 => ((zR r7) ∧ ((0 ≤ r7 → (∀ M9, M9 = zup M8 102 48 0 → (zP E mX12_take [.inr (.inr 102)] M9 (fun r10 M11 => (zP E mX12_done [.inr (.inr 102), .inl r7] M11 (fun r12 M13 => Q 1 M13)))))) ∧ (r7 < 0 → Q 0 M8)))))) ∧ (r5 = 0 → Q 0 M6)))))) ∧ (5 ≤ (M 102 20) → ((zR (M 102 20)) ∧ ((11 < (M 102 20) → (zP E mX12_number [.inr (.inr 102), .inl 0, .inl 99999] M (fun r5 M6 => ((zR r5) ∧ ((¬ r5 = 0 → (zP E mX12_grown [.inr (.inr 102), .inl 0, .inl (M6 102 20)] M6 (fun r7 M8 => ((zR r7) ∧ ((0 ≤ r7 → (∀ M9, M9 = zup M8 102 48 0 → (zP E mX12_take [.inr (.inr 102)] M9 (fun r10 M11 => (zP E mX12_done [.inr (.inr 102), .inl r7] M11 (fun r12 M13 => Q 1 M13)))))) ∧ (r7 < 0 → Q 0 M8)))))) ∧ (r5 = 0 → Q 0 M6)))))) ∧ ((M 102 20) ≤ 11 → (zP E mX12_whatRead [.inr (.inr 102)] M (fun r32 M33 => ((r32 = 0 ∨ r32 = 1) ∧ Q r32 M33)))))))))))) := fun p1 p2 p3 =>
    ⟨zk, fun q1 => num p1 p2 p3 (fun q2 => q1 q2.1), fun q1 => ⟨zw q1, fun q2 => num p1 p2 p3 (fun q3 => by omega), fun q2 => ⟨zw q1, fun q3 => num p1 p2 p3 (fun q4 => by omega), fun q3 => r_whatRead hb h x (by omega) (by omega) fr hP1⟩⟩⟩
  refine vcX12_valueRead ?_
  refine r_isSign r1 r2 (by decide) ⟨ite01.1, fun q1 => ?_, fun q1 => ?_⟩
  · have p1 := ite01.2.mp q1
    refine r_isSign r1 r2 (by decide) ⟨ite01.1, fun q2 => ?_, fun q2 => ?_⟩
    · have p2 := ite01.2.mp q2
      refine ⟨zk, fun q3 => wd p1 p2 (fun q4 => q3 q4.1), fun q3 => ⟨zw q3, fun q4 => wd p1 p2 (fun q5 => q4 q5.2.1), fun q4 => ⟨by unfold zR; omega, fun q5 => wd p1 p2 (fun q6 => q6.2.2 q5), fun q5 => ?_⟩⟩⟩
      have k4 : lxK t n a = 4 := by omega
      obtain ⟨X1, X2⟩ := x_one (k := 12) hb x h.2.1 (Or.inr ⟨rfl, k4, by rw [← o4]; exact q5⟩)
      refine r_ofOne (Or.inr rfl) k1 kn64 t2 (by omega) (fun q6 => ?_) (fun q6 => x_bad h (by omega) (X2 q6) (by decide) rfl fr hP1)
      obtain ⟨f0, X⟩ := X1 q6
      exact x_go hb h (by omega) f0 (by
        unfold ofM wfM gwM
        rw [if_neg (by decide)]
        exact fz_up rfl (fz_up rfl (fz_up rfl (fz_up rfl (fz_up rfl (fz_up rfl (fz_up rfl (fz_up rfl (fun _ _ _ => rfl))))))))) X (frP_t fr (by
        unfold ofM
        rw [if_neg (by decide)]
        exact frP_t (gw_pr _ _ _ _) (wf_pr _ _ _ _))) hP1
    · have p2 : M 102 19 = 3 ∧ M 102 20 = 8 := Classical.byContradiction (fun q3 => q2 (ite01.2.mpr q3))
      have k22 : lxK t n a = 22 := by omega
      obtain ⟨X1, X2⟩ := x_one (k := 11) hb x h.2.1 (Or.inl ⟨rfl, k22⟩)
      refine r_ofOne (Or.inl rfl) k1 kn64 t2 (by omega) (fun q6 => ?_) (fun q6 => x_bad h (by omega) (X2 q6) (by decide) rfl fr hP1)
      obtain ⟨f0, X⟩ := X1 q6
      exact x_go hb h (by omega) f0 (by
        unfold ofM wfM gwM
        rw [if_pos rfl]
        exact fz_up rfl (fz_up rfl (fz_up rfl (fz_up rfl (fz_up rfl (fz_up rfl (fz_up rfl (fz_up rfl (fz_up rfl (fun _ _ _ => rfl)))))))))) X (frP_t fr (by
        unfold ofM
        rw [if_pos rfl]
        exact frP_t (frP_t (gw_pr _ _ _ _) (wf_pr _ _ _ _)) (fz_up rfl (fun _ _ _ => rfl)))) hP1
  · have p1 : M 102 19 = 3 ∧ M 102 20 = 40 := Classical.byContradiction (fun q3 => q1 (ite01.2.mpr q3))
    have k18 : lxK t n a = 18 := by omega
    obtain ⟨X1, X2⟩ := x_open hb x h.2.1 k18
    refine ⟨by rw [o1]; unfold zR; omega, fun q8 => ⟨⟨by omega, by omega, ?_⟩, fun M96 m96 M97 m97 => ?_⟩, fun q8 => r_wrong (x_bad h (by omega) (X2 (by omega)) (by decide) rfl fr hP1)⟩
    · rw [o3]
      exact q4c _ (by omega)
    · have e46 : M96 102 46 = M 102 46 := by rw [m96, zup_ne _ _ _ (by decide)]
      rw [e46, m96] at m97
      refine r_waitFor (w := w) (by rw [m97, zup_q, if_neg (by decide), zup_ne _ _ _ (by decide)]; exact t2) (by omega) ?_
      intro M100 m100 M101 m101
      obtain ⟨f0, X⟩ := X1 (by omega)
      rw [← m97, ← m100, ← m101] at X
      have f97 : frP M M97 := by
        rw [m97]
        exact fz_up rfl (fz_up (dPr_w (by decide) _) (fun _ _ _ => rfl))
      exact x_go hb h (by omega) f0 (by
        rw [m101, m100, m97]
        unfold wfM
        exact fz_up rfl (fz_up rfl (fz_up rfl (fz_up rfl (fz_up rfl (fz_up rfl (fz_up rfl (fun _ _ _ => rfl)))))))) X (frP_t fr (frP_t f97 (by
        rw [m101, m100]
        exact fz_up rfl (fz_up rfl (wf_pr _ _ _ _))))) hQ
