/-! the reader of rules: a line -/
/-- between lines; d is what is due -/
def lS (b : Nat) (d : Int) (V M : zM) (L kn o : Nat) : Prop := V 1 3 = d ∧ pInv b V ∧ lI b V M L o ∧ (M 102 38 = (kn : Int) ∧ V b 9 = (kn : Int)) ∧ (M 102 39 = (o : Int) ∧ V b 7 = (o : Int)) ∧ (∀ j : Nat, j < o → ∃ a : Nat, M 119 (64 + j) = 64 + (a : Int) ∧ a < kn) ∧ kn ≤ 64 ∧ o ≤ kn
theorem lI_h {b : Nat} {V M V' M' : zM} {L o : Nat} (hb : b = 6 ∨ b = 13) (h : lI b V M L o) (g : agr (shM V M) (shM V' M') b o) (v : V' (b + 4) = V (b + 4) ∧ V' (b + 5) = V (b + 5) ∧ V' b 8 = V b 8) (kk : M' 102 35 = V' b 10 ∧ M' 102 36 = V' b 11) (m : M' 102 33 = M 102 33) (m2 : ∀ l : Nat, l < L → M' 120 (12 + l) = M 120 (12 + l) ∧ M' 121 (12 + l) = M 121 (12 + l) ∧ M' 122 (12 + l) = M 122 (12 + l)) : lI b V' M' L o := by
  obtain ⟨⟨a1, a2⟩, -, a5, a6, a7, a8⟩ := h
  obtain ⟨v1, v2, v3⟩ := v
  refine ⟨⟨by rw [m]; exact a1, by rw [v3]; exact a2⟩, kk, a5, bkL_g a6 (Nat.le_refl _) g (fun l hl => ⟨?_, ?_, ?_, ?_, ?_⟩), a7, fun l' hl' => by rw [v2]; exact a8 l' hl'⟩
  · rw [sh_c (by omega), sh_c (by omega), v1]
  · rw [sh_c (by omega), sh_c (by omega), v2]
  · rw [sh_l (Or.inl rfl), sh_l (Or.inl rfl), (m2 l hl).1]
  · rw [sh_l (Or.inr (Or.inl rfl)), sh_l (Or.inr (Or.inl rfl)), (m2 l hl).2.1]
  · rw [sh_l (Or.inr (Or.inr rfl)), sh_l (Or.inr (Or.inr rfl)), (m2 l hl).2.2]
theorem lS_mk {b : Nat} {d d' : Int} {V M V' M' : zM} {L kn o : Nat} (hb : b = 6 ∨ b = 13) (h : lS b d V M L kn o) (pV : pInv b V') (hd : V' 1 3 = d') (v : (V' (b + 1) = V (b + 1) ∧ V' (b + 2) = V (b + 2) ∧ V' (b + 3) = V (b + 3)) ∧ V' (b + 4) = V (b + 4) ∧ V' (b + 5) = V (b + 5)) (v2 : V' b 8 = V b 8 ∧ V' b 9 = V b 9 ∧ V' b 7 = V b 7) (kk : M' 102 35 = V' b 10 ∧ M' 102 36 = V' b 11)
    (m : M' 102 33 = M 102 33 ∧ M' 102 38 = M 102 38 ∧ M' 102 39 = M 102 39) (mo : ∀ y, (y = 113 ∨ y = 114 ∨ y = 115 ∨ y = 116 ∨ y = 117 ∨ y = 118 ∨ y = 119) → M' y = M y) (m2 : ∀ l : Nat, l < L → M' 120 (12 + l) = M 120 (12 + l) ∧ M' 121 (12 + l) = M 121 (12 + l) ∧ M' 122 (12 + l) = M 122 (12 + l)) : lS b d' V' M' L kn o := by
  obtain ⟨h1, h2, h3, ⟨h4, h5⟩, ⟨h6, h7⟩, h8, h9, h10⟩ := h
  obtain ⟨⟨v1, v1', v1''⟩, v4, v5⟩ := v
  obtain ⟨w1, w2, w3⟩ := v2
  have ag : agr (shM V M) (shM V' M') b o := sh_agr hb h8 (fun j hj => by rw [mo _ (by decide)]) (fun j hj => by rw [v1, v1', v1'']; exact ⟨rfl, rfl, rfl⟩) (fun x hx => by rw [mo 113 (by decide), mo 114 (by decide), mo 115 (by decide), mo 116 (by decide), mo 117 (by decide), mo 118 (by decide)]; exact ⟨rfl, rfl, rfl, rfl, rfl, rfl⟩)
  exact ⟨hd, pV, lI_h hb h3 ag ⟨v4, v5, w1⟩ kk m.1 m2, ⟨by rw [m.2.1]; exact h4, by rw [w2]; exact h5⟩, ⟨by rw [m.2.2]; exact h6, by rw [w3]; exact h7⟩, fun j hj => by rw [mo _ (by decide)]; exact h8 j hj, h9, h10⟩
theorem lS_tk {b : Nat} {d : Int} {V M M' : zM} {L kn o : Nat} (hb : b = 6 ∨ b = 13) (h : lS b d V M L kn o) (f : tkF M M') : lS b d V M' L kn o := by
  have f2 : ∀ j, j ≠ 18 → j ≠ 19 → j ≠ 20 → j ≠ 21 → M' 102 j = M 102 j := f.2
  obtain ⟨k1, k2⟩ := h.2.2.1.2.1
  exact lS_mk hb h h.2.1 h.1 ⟨⟨rfl, rfl, rfl⟩, rfl, rfl⟩ ⟨rfl, rfl, rfl⟩ ⟨by rw [f2 _ (by decide) (by decide) (by decide) (by decide)]; exact k1, by rw [f2 _ (by decide) (by decide) (by decide) (by decide)]; exact k2⟩ ⟨f2 _ (by decide) (by decide) (by decide) (by decide), f2 _ (by decide) (by decide) (by decide) (by decide), f2 _ (by decide) (by decide) (by decide) (by decide)⟩ (fun y hy => f.1 y (by omega)) (fun l hl => by rw [f.1 120 (by decide), f.1 121 (by decide), f.1 122 (by decide)]; exact ⟨rfl, rfl, rfl⟩)
/-- the class's cells at a line's word, at keep's number, at its end, at level's number -/
theorem y_0 {b : Nat} {t : Nat → Int} {n a : Nat} {V : zM} (hb : b = 6 ∨ b = 13) (hd : V 1 3 = 0) : (lxK t n a = 0 → (stpM b (nxM V t n a)).1 = (if V b 11 = 0 then 0 else 3) ∧ uwF V (sxM b t n V a) ∧ sxM b t n V a 1 3 = 1) ∧ (lxK t n a = 1 → (stpM b (nxM V t n a)).1 = (if 12 ≤ V b 8 then 2 else 0) ∧ uwF V (sxM b t n V a) ∧ sxM b t n V a 1 3 = 3) ∧ (lxK t n a ≠ 0 → lxK t n a ≠ 1 → (stpM b (nxM V t n a)).1 = 1) := by
  obtain ⟨e1, e2, e3, e4, e5⟩ := nxM_r V t n a
  have uw := nx_uw V t n a
  unfold sxM
  obtain ⟨N, hN⟩ : ∃ N, N = nxM V t n a := ⟨_, rfl⟩
  rw [← hN] at e1 e2 e3 e4 e5 uw ⊢
  have er : N 1 = V 1 := e4 _ (by decide)
  have eb : N b = V b := e4 b (by omega)
  have st : stpM b N = (if N 2 4 = 0 then ((if N b 11 = 0 then 0 else 3), zup N 1 3 1) else if N 2 4 = 1 then ((if 12 ≤ N b 8 then 2 else 0), zup N 1 3 3) else (1, N)) := by
    unfold stpM
    rw [if_pos (by rw [er]; exact hd)]
  rw [st, e2, eb]
  refine ⟨fun q => ?_, fun q => ?_, fun q q2 => by rw [if_neg q, if_neg q2]⟩
  · rw [if_pos q]
    dsimp only
    exact ⟨rfl, fz_up rfl (fz_up rfl uw), by rw [zup_q, if_neg (by decide), zup_q, if_pos ⟨rfl, rfl⟩]⟩
  · rw [if_neg (show ¬ lxK t n a = 0 by omega), if_pos q]
    dsimp only
    exact ⟨rfl, fz_up rfl (fz_up rfl uw), by rw [zup_q, if_neg (by decide), zup_q, if_pos ⟨rfl, rfl⟩]⟩
theorem y_1 {b : Nat} {t : Nat → Int} {n a : Nat} {V : zM} (hb : b = 6 ∨ b = 13) (hd : V 1 3 = 1) : (stpM b (nxM V t n a)).1 = jdg (nxM V t n a) 0 24 ∧ (∀ y, y ≠ 1 → y ≠ 2 → y ≠ b → sxM b t n V a y = V y) ∧ (∀ j, sxM b t n V a b j = if j = 10 then nxM V t n a 2 6 else if j = 11 then 1 else V b j) ∧ sxM b t n V a 1 3 = 2 := by
  obtain ⟨e1, e2, e3, e4, e5⟩ := nxM_r V t n a
  unfold sxM
  obtain ⟨N, hN⟩ : ∃ N, N = nxM V t n a := ⟨_, rfl⟩
  rw [← hN] at e1 e2 e3 e4 e5 ⊢
  have er : N 1 = V 1 := e4 _ (by decide)
  have eb : N b = V b := e4 b (by omega)
  have b1 : 1 ≠ b := by omega
  have b2 : 2 ≠ b := by omega
  have st : stpM b N = (jdg N 0 24, zup (zup (zup N b 11 1) b 10 (N 2 6)) 1 3 2) := by
    unfold stpM
    rw [if_neg (by rw [er]; omega), if_pos (by rw [er]; exact hd)]
  rw [st]
  dsimp only
  refine ⟨rfl, fun y h1 h2 h3 => by rw [zup_ne _ _ _ h1, zup_ne _ _ _ h1, zup_ne _ _ _ h3, zup_ne _ _ _ h3, e4 y h2], fun j => ?_, by rw [zup_q, if_neg (by decide), zup_q, if_pos ⟨rfl, rfl⟩]⟩
  rw [zup_ne _ _ _ b1.symm, zup_ne _ _ _ b1.symm, zup_q, zup_q, eb]
  simp
theorem y_2 {b : Nat} {t : Nat → Int} {n a : Nat} {V : zM} (hd : V 1 3 = 2) : (stpM b (nxM V t n a)).1 = (if lxK t n a = 17 then 0 else 1) ∧ (∀ y, y ≠ 1 → y ≠ 2 → sxM b t n V a y = V y) ∧ sxM b t n V a 1 3 = 0 := by
  obtain ⟨e1, e2, e3, e4, e5⟩ := nxM_r V t n a
  unfold sxM
  obtain ⟨N, hN⟩ : ∃ N, N = nxM V t n a := ⟨_, rfl⟩
  rw [← hN] at e1 e2 e3 e4 e5 ⊢
  have er : N 1 = V 1 := e4 _ (by decide)
  have st : stpM b N = ((if N 2 4 = 17 then 0 else 1), zup (zup N 1 4 (N 1 4 + 1)) 1 3 0) := by
    unfold stpM
    rw [if_neg (by rw [er]; omega), if_neg (by rw [er]; omega), if_pos (by rw [er]; exact hd)]
  rw [st, e2]
  dsimp only
  exact ⟨rfl, fun y h1 h2 => by rw [zup_ne _ _ _ h1, zup_ne _ _ _ h1, zup_ne _ _ _ h1, e4 y h2], by rw [zup_q, if_neg (by decide), zup_q, if_pos ⟨rfl, rfl⟩]⟩
theorem y_3 {b : Nat} {t : Nat → Int} {n a : Nat} {V : zM} (hd : V 1 3 = 3) : (stpM b (nxM V t n a)).1 = jdg (nxM V t n a) 1 4 ∧ (∀ y, y ≠ 1 → y ≠ 5 → y ≠ 2 → sxM b t n V a y = V y) ∧ sxM b t n V a 1 3 = 4 ∧ sxM b t n V a 1 5 = nxM V t n a 2 6 ∧ sxM b t n V a 1 7 = 0 ∧ sxM b t n V a 1 8 = 0 ∧ sxM b t n V a 5 0 = 0 ∧ sxM b t n V a 1 10 = 1 := by
  obtain ⟨e1, e2, e3, e4, e5⟩ := nxM_r V t n a
  unfold sxM
  obtain ⟨N, hN⟩ : ∃ N, N = nxM V t n a := ⟨_, rfl⟩
  rw [← hN] at e1 e2 e3 e4 e5 ⊢
  have er : N 1 = V 1 := e4 _ (by decide)
  have st : stpM b N = (jdg N 1 4, zup (zup (zup (zup (zup (zup N 1 5 (N 2 6)) 1 7 0) 1 8 0) 5 0 0) 1 10 1) 1 3 4) := by
    unfold stpM
    rw [if_neg (by rw [er]; omega), if_neg (by rw [er]; omega), if_neg (by rw [er]; omega), if_pos (by rw [er]; exact hd)]
  rw [st]
  dsimp only
  refine ⟨rfl, fun y h1 h2 h3 => by rw [zup_ne _ _ _ h1, zup_ne _ _ _ h1, zup_ne _ _ _ h1, zup_ne _ _ _ h2, zup_ne _ _ _ h1, zup_ne _ _ _ h1, zup_ne _ _ _ h1, e4 y h3], ?_, ?_, ?_, ?_, ?_, ?_⟩ <;> simp [zup_q]
/-- a line of level ends -/
theorem x_semi {b : Nat} {t : Nat → Int} {n a : Nat} {V M : zM} {o0 c w kn L : Nat} {s : List Nat} (hb : b = 6 ∨ b = 13) (z : xZ b t n V M a o0 c w kn L s) (han : a ≤ n) :
    (lxK t n a = 17 → (stpM b (nxM V t n a)).1 = 0 ∧ lS b 0 (sxM b t n V a) (zup (zup M 122 (12 + L) (c : Int)) 102 33 ((L : Int) + 1)) (L + 1) kn (o0 + c)) ∧ (lxK t n a ≠ 17 → (stpM b (nxM V t n a)).1 = 1) := by
  obtain ⟨t1, he, x2, ⟨k1, k2⟩, ⟨o1, hd⟩, hn, hl, l12, f1, f2, f3⟩ := z
  obtain ⟨e1, e2, e3, e4, e5⟩ := nxM_r V t n a
  have hSx : sxM b t n V a = zup (stpM b (nxM V t n a)).2 1 1 0 := rfl
  obtain ⟨N, hN⟩ : ∃ N, N = nxM V t n a := ⟨_, rfl⟩
  rw [← hN] at e1 e2 e3 e4 e5 hSx he hl ⊢
  have er : N 1 = V 1 := e4 _ (by decide)
  have eb : N b = V b := e4 b (by omega)
  refine ⟨fun ht => ?_, fun ht => ?_⟩
  · obtain ⟨S, hS⟩ : ∃ S, S = stlM b 1 w N := ⟨_, rfl⟩
    obtain ⟨s1, s2, s3, -, -⟩ := stl_n hb (least := 1) w N
    rw [← hS] at s1 s2 s3 he hl
    obtain ⟨⟨i1, i2⟩, i3, i4, i5, i6, i7, i8, i9, i10⟩ := he
    obtain ⟨⟨a1, a2⟩, ⟨a3, a4⟩, a5, a6, a7, a8⟩ := hl
    have st : stpM b N = (0, zup (zup (enM S b (S 1 5)) 1 4 (enM S b (S 1 5) 1 4 + 1)) 1 3 0) := by
      rw [stp_5 (by rw [er]; exact hd)]
      unfold stpB
      rw [if_pos (by rw [er]; omega), er, t1, Int.toNat_natCast, ← hS]
    have f0 : (stpM b N).1 = 0 := by rw [st]
    have pV := sx_inv (t := t) (n := n) (a := a) hb x2 han (by rw [← hN]; exact f0)
    refine ⟨f0, ?_⟩
    obtain ⟨V', hV'⟩ : ∃ V', V' = sxM b t n V a := ⟨_, rfl⟩
    rw [← hV'] at pV hSx ⊢
    have b1 : 1 ≠ b := by omega
    obtain ⟨X, eV⟩ : ∃ X, V' = zup (zup (zup (zup (zup (zup S (b + 4) L (V 1 5)) (b + 5) L ((o0 + c : Nat) : Int)) b 8 ((L : Int) + 1)) 1 4 X) 1 3 0) 1 1 0 := by
      refine ⟨enM S b (S 1 5) 1 4 + 1, ?_⟩
      rw [hSx, st]
      dsimp only
      have en : enM S b (S 1 5) = zup (zup (zup S (b + 4) L (V 1 5)) (b + 5) L ((o0 + c : Nat) : Int)) b 8 ((L : Int) + 1) := by
        unfold enM
        rw [if_pos (by rw [a2]; omega), a2, i2, Int.toNat_natCast, s2 _ (by decide), er]
      rw [en]
    have vo : ∀ y, y ≠ 1 → y ≠ b → y ≠ b + 4 → y ≠ b + 5 → V' y = S y := fun y h1 h2 h3 h4 => by rw [eV, zup_ne _ _ _ h1, zup_ne _ _ _ h1, zup_ne _ _ _ h1, zup_ne _ _ _ h2, zup_ne _ _ _ h4, zup_ne _ _ _ h3]
    have vb : ∀ j, V' b j = if j = 8 then (L : Int) + 1 else S b j := fun j => by
      rw [eV, zup_ne _ _ _ b1.symm, zup_ne _ _ _ b1.symm, zup_ne _ _ _ b1.symm, zup_q, zup_ne _ _ _ (by omega), zup_ne _ _ _ (by omega)]
      simp
    have v4 : ∀ j, V' (b + 4) j = if j = L then V 1 5 else S (b + 4) j := fun j => by
      rw [eV, zup_ne _ _ _ (by omega), zup_ne _ _ _ (by omega), zup_ne _ _ _ (by omega), zup_ne _ _ _ (by omega), zup_ne _ _ _ (by omega), zup_q]
      simp
    have v5 : ∀ j, V' (b + 5) j = if j = L then ((o0 + c : Nat) : Int) else S (b + 5) j := fun j => by
      rw [eV, zup_ne _ _ _ (by omega), zup_ne _ _ _ (by omega), zup_ne _ _ _ (by omega), zup_ne _ _ _ (by omega), zup_q, zup_ne _ _ _ (by omega)]
      simp
    obtain ⟨M', m'⟩ : ∃ M', M' = zup (zup M 122 (12 + L) (c : Int)) 102 33 ((L : Int) + 1) := ⟨_, rfl⟩
    rw [← m']
    have fM : ∀ j, j ≠ 33 → M' 102 j = M 102 j := fun j p1 => by rw [m', zup_q, if_neg (fun q2 => p1 q2.2), zup_ne _ _ _ (by decide)]
    have oM : ∀ y, y ≠ 102 → y ≠ 122 → M' y = M y := fun y p1 p2 => by rw [m', zup_ne _ _ _ p1, zup_ne _ _ _ p2]
    have mM : ∀ j, M' 122 j = if j = 12 + L then (c : Int) else M 122 j := fun j => by
      rw [m', zup_ne _ _ _ (by decide), zup_q]
      simp
    have ag : agr (shM S M) (shM V' M') b (o0 + c) := sh_agr hb i4 (fun j hj => by rw [oM _ (by decide) (by decide)]) (fun j hj => by rw [vo _ (by omega) (by omega) (by omega) (by omega), vo _ (by omega) (by omega) (by omega) (by omega), vo _ (by omega) (by omega) (by omega) (by omega)]; exact ⟨rfl, rfl, rfl⟩) (fun y hy => by rw [oM 113 (by decide) (by decide), oM 114 (by decide) (by decide), oM 115 (by decide) (by decide), oM 116 (by decide) (by decide), oM 117 (by decide) (by decide), oM 118 (by decide) (by decide)]; exact ⟨rfl, rfl, rfl, rfl, rfl, rfl⟩)
    have old : bkL b (shM V' M') L o0 := bkL_g a6 (Nat.le_refl _) (agr_le ag (Nat.le_add_right _ _)) (fun l hl => ⟨by rw [sh_c (by omega), sh_c (by omega), v4, if_neg (by omega)], by rw [sh_c (by omega), sh_c (by omega), v5, if_neg (by omega)], by rw [sh_l (Or.inl rfl), sh_l (Or.inl rfl), oM _ (by decide) (by decide)], by rw [sh_l (Or.inr (Or.inl rfl)), sh_l (Or.inr (Or.inl rfl)), oM _ (by decide) (by decide)], by rw [sh_l (Or.inr (Or.inr rfl)), sh_l (Or.inr (Or.inr rfl)), mM, if_neg (by omega)]⟩)
    have lv : M' 120 (12 + L) = V 1 5 := by rw [oM _ (by decide) (by decide)]; exact f2
    have new := bkL_add (c := c) (s := s) old ⟨by rw [sh_c (by omega), sh_l (Or.inl rfl), v4, if_pos rfl, lv], by rw [sh_l (Or.inl rfl), lv]; exact f3⟩ (by rw [sh_l (Or.inr (Or.inl rfl)), oM _ (by decide) (by decide)]; exact f1) (by rw [sh_l (Or.inr (Or.inr rfl)), mM, if_pos rfl]) (chn_g ag c (Nat.le_refl _) s i5) (by rw [sh_c (by omega), v5, if_pos rfl]) a7 (fun l' hl' => by rw [sh_c (by omega), v5, if_neg (by omega)]; exact a8 l' hl')
    refine ⟨by rw [eV, zup_q, if_neg (by decide), zup_q, if_pos ⟨rfl, rfl⟩], pV, ⟨⟨by rw [m', zup_q, if_pos ⟨rfl, rfl⟩]; rfl, by rw [vb, if_pos rfl]; rfl⟩, ⟨by rw [fM _ (by decide), vb, if_neg (by decide)]; exact a3, by rw [fM _ (by decide), vb, if_neg (by decide)]; exact a4⟩, by omega, new, fun q => by omega, fun l' hl' => ?_⟩, ⟨by rw [fM _ (by decide)]; exact k1, by rw [vb, if_neg (by decide), s3 _ (by decide), eb]; exact k2⟩, ⟨by rw [fM _ (by decide)]; exact i1, by rw [vb, if_neg (by decide)]; exact i2⟩, fun j hj => by rw [oM _ (by decide) (by decide)]; exact i4 j hj, i3, by omega⟩
    rw [v5, if_pos (by omega)]
  · have bad : sgBad N := by
      unfold opTwo at hn
      unfold sgBad
      rw [e2]
      exact ⟨by omega, by omega, Or.inl (by omega)⟩
    rw [stp_5 (by rw [er]; exact hd)]
    unfold stpB
    rw [if_neg (by rw [e2, er]; omega), if_neg (by rw [e2, er]; omega), if_pos bad]
