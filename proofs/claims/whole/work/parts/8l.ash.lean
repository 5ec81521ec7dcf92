/-! pairs: ash -/
def sxF (d : Int) : Int := if d = 0 ∨ d = 1 ∨ d = 7 then 1 else if d = 2 ∨ d = 6 then 0 else -1
def syF (d : Int) : Int := if 1 ≤ d ∧ d ≤ 3 then 1 else if d = 0 ∨ d = 4 then 0 else -1
def absJ (x : Int) : Int := if 0 ≤ x then x else 0 - x
def mxA (X Y : Int) : Int := if absJ X < absJ Y then absJ Y else absJ X
def hrV (rate X Y dir sp : Int) : Int := if sxF dir * mxA X Y = X ∧ syF dir * mxA X Y = Y ∧ mxA X Y ≤ sp then zshr rate (mxA X Y) else 0
def adF (rate X Y dir : Int) : Nat → Int
  | 0 => 0
  | d + 1 => adF rate X Y dir d + (if (d : Int) * sxF dir = X ∧ (d : Int) * syF dir = Y then zshr rate d else 0)
theorem d8 {d : Int} (h : 0 ≤ d ∧ d ≤ 7) : d = 0 ∨ d = 1 ∨ d = 2 ∨ d = 3 ∨ d = 4 ∨ d = 5 ∨ d = 6 ∨ d = 7 := by omega
theorem sol_one {X Y dir : Int} (hd : 0 ≤ dir ∧ dir ≤ 7) (d : Nat) : ((d : Int) * sxF dir = X ∧ (d : Int) * syF dir = Y) ↔ ((d : Int) = mxA X Y ∧ sxF dir * mxA X Y = X ∧ syF dir * mxA X Y = Y) := by
  unfold mxA absJ
  rcases d8 hd with q | q | q | q | q | q | q | q <;> subst q <;> simp only [sxF, syF] <;> simp <;> split <;> split <;> split <;> omega
theorem adF_v {rate X Y dir : Int} (hd : 0 ≤ dir ∧ dir ≤ 7) (n : Nat) : adF rate X Y dir n = if sxF dir * mxA X Y = X ∧ syF dir * mxA X Y = Y ∧ mxA X Y < n then zshr rate (mxA X Y) else 0 := by
  have m0 : 0 ≤ mxA X Y := by
    unfold mxA absJ
    split <;> split <;> omega
  induction n with
  | zero =>
    rw [if_neg (fun q => by omega)]
    rfl
  | succ n ih =>
    have un : adF rate X Y dir (n + 1) = adF rate X Y dir n + (if (n : Int) * sxF dir = X ∧ (n : Int) * syF dir = Y then zshr rate n else 0) := rfl
    rw [un, ih]
    have s := sol_one (X := X) (Y := Y) hd n
    by_cases q : (n : Int) * sxF dir = X ∧ (n : Int) * syF dir = Y
    · obtain ⟨s1, s2, s3⟩ := s.mp q
      rw [if_pos q, if_neg (fun q2 => by omega), if_pos ⟨s2, s3, by omega⟩, ← s1]
      omega
    · rw [if_neg q]
      by_cases q2 : sxF dir * mxA X Y = X ∧ syF dir * mxA X Y = Y ∧ mxA X Y < n
      · rw [if_pos q2, if_pos ⟨q2.1, q2.2.1, by omega⟩]
        omega
      · rw [if_neg q2, if_neg (fun q3 => ?_)]
        · rfl
        · by_cases q4 : (n : Int) = mxA X Y
          · exact q (s.mpr ⟨q4, q3.1, q3.2.1⟩)
          · exact q2 ⟨q3.1, q3.2.1, by omega⟩
def asF (M : zM) (w : Nat) (X Y : Int) : Nat → Int
  | 0 => 0
  | n + 1 => asF M w X Y n + hrV (M 134 w) X Y (M 163 (M 132 w + n).toNat) (M 164 (M 132 w + n).toNat)
theorem shr_r {r d : Int} (hr : 0 ≤ r ∧ r ≤ 99) (hd : 0 ≤ d ∧ d ≤ 7) : 0 ≤ zshr r d ∧ zshr r d ≤ 99 := by
  have key : ∀ (a : Fin 100) (b : Fin 8), 0 ≤ zshr ((a : Nat) : Int) ((b : Nat) : Int) ∧ zshr ((a : Nat) : Int) ((b : Nat) : Int) ≤ 99 := by decide +kernel
  have := key ⟨r.toNat, by omega⟩ ⟨d.toNat, by omega⟩
  rw [show ((⟨r.toNat, by omega⟩ : Fin 100) : Nat) = r.toNat from rfl, show ((⟨d.toNat, by omega⟩ : Fin 8) : Nat) = d.toNat from rfl, show ((r.toNat : Nat) : Int) = r by omega, show ((d.toNat : Nat) : Int) = d by omega] at this
  exact this
theorem mxA_0 (X Y : Int) : 0 ≤ mxA X Y := by
  unfold mxA absJ
  split <;> split <;> omega
theorem as_r {M : zM} {w : Nat} {X Y : Int} (hr : 1 ≤ M 134 w ∧ M 134 w ≤ 99) (hs : ∀ i, 0 ≤ M 164 i ∧ M 164 i ≤ 7) (n : Nat) : 0 ≤ asF M w X Y n ∧ asF M w X Y n ≤ 99 * n := by
  induction n with
  | zero => exact ⟨Int.le_refl _, Int.le_refl _⟩
  | succ n ih =>
    have un : asF M w X Y (n + 1) = asF M w X Y n + hrV (M 134 w) X Y (M 163 (M 132 w + n).toNat) (M 164 (M 132 w + n).toNat) := rfl
    rw [un]
    have m0 := mxA_0 X Y
    have s := hs (M 132 w + n).toNat
    unfold hrV
    by_cases q : sxF (M 163 (M 132 w + n).toNat) * mxA X Y = X ∧ syF (M 163 (M 132 w + n).toNat) * mxA X Y = Y ∧ mxA X Y ≤ M 164 (M 132 w + n).toNat
    · rw [if_pos q]
      have := shr_r (r := M 134 w) (d := mxA X Y) (by omega) (by omega)
      omega
    · rw [if_neg q]
      omega
theorem c_steps {E : zE} {M : zM} {Q : Int → zM → Prop} {X Y d : Int} (hX : -10 ≤ X ∧ X ≤ 10) (hY : -10 ≤ Y ∧ Y ≤ 10) (hd : 0 ≤ d ∧ d ≤ 7) (h : Q (if sxF d * mxA X Y = X ∧ syF d * mxA X Y = Y then mxA X Y else -1) M) : zP E mX11_stepsDownwind [.inl X, .inl Y, .inl d] M Q := by
  have e1 : (([1, 1, 0, -1, -1, -1, 0, 1] : List Int).getD d.toNat 0) = sxF d := by
    rcases d8 hd with q | q | q | q | q | q | q | q <;> subst q <;> rfl
  have e2 : (([0, 1, 1, 1, 0, -1, -1, -1] : List Int).getD d.toNat 0) = syF d := by
    rcases d8 hd with q | q | q | q | q | q | q | q <;> subst q <;> rfl
  have ea : ∀ x : Int, (if 0 ≤ x then x else 0 - x) = absJ x := fun _ => rfl
  have em : (if absJ X < absJ Y then absJ Y else absJ X) = mxA X Y := rfl
  have aX : 0 ≤ absJ X ∧ absJ X ≤ 10 := by unfold absJ; split <;> omega
  have aY : 0 ≤ absJ Y ∧ absJ Y ≤ 10 := by unfold absJ; split <;> omega
  have mr : 0 ≤ mxA X Y ∧ mxA X Y ≤ 10 := by unfold mxA; split <;> omega
  have px : -10 ≤ sxF d * mxA X Y ∧ sxF d * mxA X Y ≤ 10 := by
    rcases d8 hd with q | q | q | q | q | q | q | q <;> subst q <;> simp only [sxF] <;> simp <;> omega
  have py : -10 ≤ syF d * mxA X Y ∧ syF d * mxA X Y ≤ 10 := by
    rcases d8 hd with q | q | q | q | q | q | q | q <;> subst q <;> simp only [syF] <;> simp <;> omega
  refine vcX11_stepsDownwind _ _ _ ?_
  simp only [e1, e2, ea, em]
  refine ⟨by unfold zR; omega, by unfold zR; omega, ⟨by unfold zR; omega, by unfold zR; omega⟩, ?_⟩
  refine c_within (by unfold zR; omega) (zRd rfl) (zRd rfl) ?_
  rw [if_pos hd]
  refine ⟨zRd rfl, fun q => absurd q (by decide), fun _ => ⟨by omega, ⟨by unfold zR; omega, by unfold zR; omega⟩, fun q => ?_, fun q => ⟨by omega, ⟨by unfold zR; omega, by unfold zR; omega⟩, fun q2 => ?_, fun q2 => ?_⟩⟩⟩
  · rw [if_neg (fun q2 => q q2.1)] at h; exact h
  · rw [if_pos ⟨q, q2⟩] at h; exact h
  · rw [if_neg (fun q3 => q2 q3.2)] at h; exact h
set_option maxHeartbeats 4000000 in
theorem q_ash {E : zE} {k0 : Nat} {M : zM} {P' : zM → Prop} {a c : Int} (hA : RelA k0 M) (h1 : zR a) (h2 : zR c) (h : P' (zup M 102 2 0)) : zPP E mX11_ash mX12_ash [.inl a, .inl c] M P' := by
  obtain ⟨-, -, -, -, -, -, hl, -, ⟨wc, wr, wwf, wb⟩, -, -, ⟨d1, d2, d3, d4⟩, -⟩ := id hA
  obtain ⟨w1, w2⟩ := wt_r hl
  obtain ⟨l1, l2, l3, l4, -⟩ := hl
  have col : ∀ x : Int, 0 ≤ x ∧ x < M 102 51 * M 102 52 → (0 ≤ Int.tmod x (M 102 51) ∧ Int.tmod x (M 102 51) < 8) ∧ (0 ≤ Int.tdiv x (M 102 51) ∧ Int.tdiv x (M 102 51) < 8) := fun x hx => by
    rw [Int.tmod_eq_emod_of_nonneg hx.1, Int.tdiv_eq_ediv_of_nonneg hx.1]
    have e1 := Int.emod_nonneg x (b := M 102 51) (by omega)
    have e2 := Int.emod_lt_of_pos x (b := M 102 51) (by omega)
    have e3 := Int.ediv_nonneg hx.1 (b := M 102 51) (by omega)
    have e4 : x / M 102 51 < M 102 52 := Int.ediv_lt_of_lt_mul (by omega) (by rw [Int.mul_comm]; exact hx.2)
    omega
  have ref : ∀ v : Int, zR v → (¬ ((0 ≤ a ∧ a < M 102 58) ∧ (0 ≤ c ∧ c < M 102 51 * M 102 52)) → v = -1) → ((0 ≤ a ∧ a < M 102 58) → (0 ≤ c ∧ c < M 102 51 * M 102 52) → v = asF M a.toNat (Int.tmod c (M 102 51) - Int.tmod (M 133 a.toNat) (M 102 51)) (Int.tdiv c (M 102 51) - Int.tdiv (M 133 a.toNat) (M 102 51)) (M 135 a.toNat).toNat) → zP E mX12_ash [.inr (.inr 102), .inl a, .inl c] M (fun r2 M2 => (zR v ∧ zR r2) ∧ v = r2 ∧ P' M2) := by
    intro v zv hv0 hv1
    have key : ∀ w : Nat, a = (w : Int) → (w : Int) < M 102 58 → (0 ≤ c ∧ c < M 102 51 * M 102 52) → True := fun _ _ _ _ => trivial
    refine vcX12_ash _ _ (fun m l1' l2' l3' l4' M' => ∃ (w i : Nat), a = (w : Int) ∧ (w : Int) < M 102 58 ∧ (0 ≤ c ∧ c < M 102 51 * M 102 52) ∧ l1' = (w : Int) ∧ l2' = c ∧ l4' = M 132 w + i ∧ (i : Int) ≤ M 135 w ∧ m = 10000 - 100 * i ∧ M' = zup M 102 2 0 ∧ l3' = asF M w (Int.tmod c (M 102 51) - Int.tmod (M 133 w) (M 102 51)) (Int.tdiv c (M 102 51) - Int.tdiv (M 133 w) (M 102 51)) i)
      (fun m l1' l2' l3' l4' l5' M' => ∃ (w i d : Nat), a = (w : Int) ∧ (w : Int) < M 102 58 ∧ (0 ≤ c ∧ c < M 102 51 * M 102 52) ∧ l1' = (w : Int) ∧ l2' = c ∧ l4' = M 132 w + i ∧ (i : Int) < M 135 w ∧ l5' = (d : Int) ∧ (d : Int) ≤ M 164 (M 132 w + i).toNat + 1 ∧ m = 10000 - 100 * i - 1 - d ∧ M' = zup M 102 2 0 ∧ l3' = asF M w (Int.tmod c (M 102 51) - Int.tmod (M 133 w) (M 102 51)) (Int.tdiv c (M 102 51) - Int.tdiv (M 133 w) (M 102 51)) i + adF (M 134 w) (Int.tmod c (M 102 51) - Int.tmod (M 133 w) (M 102 51)) (Int.tdiv c (M 102 51) - Int.tdiv (M 133 w) (M 102 51)) (M 163 (M 132 w + i).toNat) d) ?_ ?_ ?_
    · intro M1 hM1
      have ew : M1 102 58 = M 102 58 := by rw [hM1, zup_a, up1_n _ _ (by decide)]
      have ewd : M1 102 51 = M 102 51 := by rw [hM1, zup_a, up1_n _ _ (by decide)]
      have etl : M1 102 52 = M 102 52 := by rw [hM1, zup_a, up1_n _ _ (by decide)]
      have no : ¬ ((0 ≤ a ∧ a < M 102 58) ∧ (0 ≤ c ∧ c < M 102 51 * M 102 52)) → (zR v ∧ zR (-1)) ∧ v = -1 ∧ P' M1 := fun q => ⟨⟨zv, zRd rfl⟩, hv0 q, by rw [hM1]; exact h⟩
      refine r_isWorld h1 (by rw [ew]; exact wr) ?_
      rw [ew]
      by_cases g1 : 0 ≤ a ∧ a < M 102 58
      · rw [if_pos g1]
        refine ⟨zRd rfl, fun q => absurd q (by decide), fun _ => ?_⟩
        refine r_isCell h2 (by rw [ewd, etl]; exact w2) ?_
        rw [ewd, etl]
        by_cases g2 : 0 ≤ c ∧ c < M 102 51 * M 102 52
        · rw [if_pos g2]
          obtain ⟨w, hw⟩ : ∃ w : Nat, a = (w : Int) := ⟨a.toNat, by omega⟩
          refine ⟨zRd rfl, fun _ => ⟨by omega, 10000 - 100 * 0, w, 0, hw, by omega, g2, hw, rfl, ?_, ?_, rfl, hM1, rfl⟩, fun q => absurd q (by decide)⟩
          · rw [hM1, zup_ne _ _ _ (by decide), hw, Int.toNat_natCast]; omega
          · have := (wb w (by omega)).2.2.2.1
            omega
        · rw [if_neg g2]
          exact ⟨zRd rfl, fun q => absurd rfl q, fun _ => no (fun q => g2 q.2)⟩
      · rw [if_neg g1]
        exact ⟨zRd rfl, fun _ => no (fun q => g1 q.1), fun q => absurd rfl q⟩
    · rintro m l1' l2' l3' l4' M' ⟨w, i, ea, hw, gc, rfl, rfl, rfl, hi, rfl, rfl, rfl⟩
      obtain ⟨b1, b2, b3, b4, b5⟩ := wb w hw
      rw [zup_ne _ _ _ (show 132 ≠ 102 by decide), zup_ne _ _ _ (show 135 ≠ 102 by decide), Int.toNat_natCast]
      refine ⟨by omega, by omega, ⟨by unfold zR; omega, by unfold zR; omega⟩, fun q => ?_, fun q => ?_⟩
      · have e := hv1 (by omega) gc
        rw [ea, Int.toNat_natCast, show (M 135 w).toNat = i by omega] at e
        rw [← e]
        exact q_end zv h
      · exact ⟨10000 - 100 * i - 1 - 0, by omega, w, i, 0, ea, hw, gc, rfl, rfl, rfl, by omega, rfl, by have := d4 (M 132 w + i).toNat; omega, rfl, rfl, (Int.add_zero _).symm⟩
    · rintro m l1' l2' l3' l4' l5' M' ⟨w, i, d, ea, hw, gc, rfl, rfl, rfl, hi, rfl, hd, rfl, hM', rfl⟩
      obtain ⟨b1, b2, b3, b4, b5⟩ := wb w hw
      have sp := d4 (M 132 w + i).toNat
      have dr := d3 (M 132 w + i).toNat
      obtain ⟨cv1, cv2⟩ := col _ b2
      obtain ⟨cc1, cc2⟩ := col _ gc
      have ewd : M' 102 51 = M 102 51 := by rw [hM', zup_a, up1_n _ _ (by decide)]
      have esp : M' 164 = M 164 := by rw [hM', zup_ne _ _ _ (by decide)]
      have eve : M' 133 = M 133 := by rw [hM', zup_ne _ _ _ (by decide)]
      have edi : M' 163 = M 163 := by rw [hM', zup_ne _ _ _ (by decide)]
      have era : M' 134 = M 134 := by rw [hM', zup_ne _ _ _ (by decide)]
      rw [esp, eve, edi, ewd, Int.toNat_natCast]
      have wz : zR (M 102 51) := by unfold zR; omega
      have hb4 : 0 ≤ M 132 w + i ∧ M 132 w + i < 124 := by omega
      have un : ∀ X Y dir : Int, adF (M 134 w) X Y dir (d + 1) = adF (M 134 w) X Y dir d + (if (d : Int) * sxF dir = X ∧ (d : Int) * syF dir = Y then zshr (M 134 w) d else 0) := fun _ _ _ => rfl
      have ash' : ∀ X Y : Int, asF M w X Y (i + 1) = asF M w X Y i + hrV (M 134 w) X Y (M 163 (M 132 w + i).toNat) (M 164 (M 132 w + i).toNat) := fun _ _ => rfl
      generalize hdir : M 163 (M 132 w + i).toNat = dir at *
      generalize hsp : M 164 (M 132 w + i).toNat = spd at *
      refine ⟨hb4, ⟨by unfold zR; omega, by unfold zR; omega⟩, fun q => ?_, fun q => ⟨by omega, ⟨by unfold zR; omega, wz, by omega⟩, hb4, ?_⟩⟩
      · have dd : (d : Int) = spd + 1 := by omega
        refine ⟨10000 - 100 * (i + 1), by omega, w, i + 1, ea, hw, gc, rfl, rfl, by omega, by omega, rfl, hM', ?_⟩
        rw [ash', adF_v dr]
        generalize Int.tmod l2' (M 102 51) - Int.tmod (M 133 w) (M 102 51) = X
        generalize Int.tdiv l2' (M 102 51) - Int.tdiv (M 133 w) (M 102 51) = Y
        unfold hrV
        by_cases q2 : sxF dir * mxA X Y = X ∧ syF dir * mxA X Y = Y ∧ mxA X Y ≤ spd
        · rw [if_pos q2, if_pos ⟨q2.1, q2.2.1, by omega⟩]
        · rw [if_neg q2, if_neg (fun q3 => q2 ⟨q3.1, q3.2.1, by omega⟩)]
      · have nx : ∀ y : Int, y = (if (d : Int) * sxF dir = (Int.tmod l2' (M 102 51) - Int.tmod (M 133 w) (M 102 51)) ∧ (d : Int) * syF dir = (Int.tdiv l2' (M 102 51) - Int.tdiv (M 133 w) (M 102 51)) then zshr (M 134 w) d else 0) → ∃ n', n' < 10000 - 100 * i - 1 - d ∧ ∃ (w' i' d' : Nat), a = (w' : Int) ∧ (w' : Int) < M 102 58 ∧ (0 ≤ l2' ∧ l2' < M 102 51 * M 102 52) ∧ (w : Int) = (w' : Int) ∧ l2' = l2' ∧ M 132 w + i = M 132 w' + i' ∧ (i' : Int) < M 135 w' ∧ (d : Int) + 1 = (d' : Int) ∧ (d' : Int) ≤ M 164 (M 132 w' + i').toNat + 1 ∧ n' = 10000 - 100 * i' - 1 - d' ∧ M' = zup M 102 2 0 ∧ asF M w (Int.tmod l2' (M 102 51) - Int.tmod (M 133 w) (M 102 51)) (Int.tdiv l2' (M 102 51) - Int.tdiv (M 133 w) (M 102 51)) i + adF (M 134 w) (Int.tmod l2' (M 102 51) - Int.tmod (M 133 w) (M 102 51)) (Int.tdiv l2' (M 102 51) - Int.tdiv (M 133 w) (M 102 51)) dir d + y = asF M w' (Int.tmod l2' (M 102 51) - Int.tmod (M 133 w') (M 102 51)) (Int.tdiv l2' (M 102 51) - Int.tdiv (M 133 w') (M 102 51)) i' + adF (M 134 w') (Int.tmod l2' (M 102 51) - Int.tmod (M 133 w') (M 102 51)) (Int.tdiv l2' (M 102 51) - Int.tdiv (M 133 w') (M 102 51)) (M 163 (M 132 w' + i').toNat) d' := by
          intro y hy
          refine ⟨10000 - 100 * i - 1 - (d + 1), by omega, w, i, d + 1, ea, hw, gc, rfl, rfl, rfl, hi, by omega, by rw [hsp]; omega, rfl, hM', ?_⟩
          rw [hdir, un, hy]
          omega
        have d7 : (d : Int) ≤ 7 := by omega
        have px : -8 ≤ (d : Int) * sxF dir ∧ (d : Int) * sxF dir ≤ 8 := by
          rcases d8 dr with q2 | q2 | q2 | q2 | q2 | q2 | q2 | q2 <;> rw [q2] <;> simp only [sxF] <;> simp <;> omega
        have py : -8 ≤ (d : Int) * syF dir ∧ (d : Int) * syF dir ≤ 8 := by
          rcases d8 dr with q2 | q2 | q2 | q2 | q2 | q2 | q2 | q2 <;> rw [q2] <;> simp only [syF] <;> simp <;> omega
        have fx : (if dir = 0 ∨ dir = 1 ∨ dir = 7 then (1 : Int) else if dir = 2 ∨ dir = 6 then 0 else -1) = sxF dir := rfl
        have fy : (if 1 ≤ dir ∧ dir ≤ 3 then (1 : Int) else if dir = 0 ∨ dir = 4 then 0 else -1) = syF dir := rfl
        refine r_stepX (by unfold zR; omega) ?_
        rw [fx, eve, edi, ewd, hdir]
        refine ⟨by omega, ⟨by unfold zR; omega, wz, by omega⟩, hb4, ?_⟩
        refine r_stepY (by unfold zR; omega) ?_
        rw [fy, era, ewd]
        refine ⟨⟨by unfold zR; omega, wz, by omega⟩, ⟨by unfold zR; omega, by unfold zR; omega⟩, fun q2 => nx 0 (by rw [if_neg (fun q3 => by omega)]), fun q2 => ⟨⟨by unfold zR; omega, wz, by omega⟩, ⟨by unfold zR; omega, by unfold zR; omega⟩, fun q3 => nx 0 (by rw [if_neg (fun q4 => by omega)]), fun q3 => ⟨by omega, nx _ (by rw [if_pos ⟨by omega, by omega⟩])⟩⟩⟩
  have gR : ∀ X Y : Int, True := fun _ _ => trivial
  refine vcX11_ash _ _ (fun m l3' l4' l5' l6' l7' l8' M' => M' = M ∧ ∃ (w i : Nat), a = (w : Int) ∧ (w : Int) < M 102 58 ∧ (0 ≤ c ∧ c < M 102 51 * M 102 52) ∧ l3' = (wid w : Int) ∧ l4' = Int.tmod c (M 102 51) - Int.tmod (M 133 w) (M 102 51) ∧ l5' = Int.tdiv c (M 102 51) - Int.tdiv (M 133 w) (M 102 51) ∧ l6' = M 132 w + M 135 w ∧ l8' = M 132 w + i ∧ (i : Int) ≤ M 135 w ∧ m = 100 - i ∧ l7' = asF M w (Int.tmod c (M 102 51) - Int.tmod (M 133 w) (M 102 51)) (Int.tdiv c (M 102 51) - Int.tdiv (M 133 w) (M 102 51)) i) ?_ ?_
  · refine c_isWorld h1 (by rw [wc]; exact wr) ?_
    rw [wc]
    by_cases g1 : 0 ≤ a ∧ a < M 102 58
    · rw [if_pos g1]
      refine ⟨zRd rfl, fun q => absurd q (by decide), fun _ => ?_⟩
      refine c_lhas h2 (by rw [l2]; omega) ?_
      rw [l2]
      by_cases g2 : 0 ≤ c ∧ c < M 102 51 * M 102 52
      · rw [if_pos g2]
        obtain ⟨w, hw⟩ : ∃ w : Nat, a = (w : Int) := ⟨a.toNat, by omega⟩
        have w3 : w < 3 := by omega
        obtain ⟨b1, b2, b3, b4, b5⟩ := wb w (by omega)
        obtain ⟨u1, u2, u3, u4, u5⟩ := wwf w w3
        have hWl : M 33 w = (wid w : Int) := by
          obtain ⟨⟨a0, a1, a2⟩, -⟩ := hA.1
          have : w = 0 ∨ w = 1 ∨ w = 2 := by omega
          rcases this with rfl | rfl | rfl
          · exact a0
          · exact a1
          · exact a2
        have wz : zR (M 102 51) := by unfold zR; omega
        refine ⟨zRd rfl, fun _ => ⟨by omega, ?_⟩, fun q => absurd q (by decide)⟩
        rw [hw, Int.toNat_natCast, hWl, Int.toNat_natCast]
        refine vcX1_column _ ?_
        rw [l1]
        refine ⟨wz, fun q => by omega, fun _ => ⟨⟨h2, wz, by omega⟩, (wid3 w3).1, ?_⟩⟩
        rw [u2]
        refine vcX1_column _ ?_
        rw [l1]
        refine ⟨wz, fun q => by omega, fun _ => ⟨⟨by unfold zR; omega, wz, by omega⟩, ?_⟩⟩
        refine vcX1_row _ ?_
        rw [l1]
        refine ⟨wz, fun q => by omega, fun _ => ⟨⟨h2, wz, by omega⟩, ?_⟩⟩
        rw [u2]
        refine vcX1_row _ ?_
        rw [l1]
        refine ⟨wz, fun q => by omega, fun _ => ⟨⟨by unfold zR; omega, wz, by omega⟩, ?_⟩⟩
        rw [u1, u4, if_neg (by omega)]
        exact ⟨by unfold zR; omega, 100 - 0, rfl, w, 0, rfl, by omega, g2, rfl, rfl, rfl, rfl, by omega, by omega, rfl, rfl⟩
      · rw [if_neg g2]
        exact ⟨zRd rfl, fun q => absurd rfl q, fun _ => ref (-1) (zRd rfl) (fun _ => rfl) (fun _ q => absurd q g2)⟩
    · rw [if_neg g1]
      exact ⟨zRd rfl, fun _ => ref (-1) (zRd rfl) (fun _ => rfl) (fun q _ => absurd q g1), fun q => absurd rfl q⟩
  · rintro m l3' l4' l5' l6' l7' l8' M' ⟨rfl, w, i, ea, hw, gc, rfl, rfl, rfl, rfl, rfl, hi, rfl, rfl⟩
    have w3 : w < 3 := by omega
    obtain ⟨b1, b2, b3, b4, b5⟩ := wb w hw
    obtain ⟨u1, u2, u3, u4, u5⟩ := wwf w w3
    obtain ⟨cv1, cv2⟩ := col _ b2
    obtain ⟨cc1, cc2⟩ := col _ gc
    have sp := d4 (M' 132 w + i).toNat
    have dr := d3 (M' 132 w + i).toNat
    refine ⟨⟨by unfold zR; omega, by unfold zR; omega⟩, fun q => ?_, fun q => ⟨by omega, ?_⟩⟩
    · have il : (M' 135 w).toNat = i := by omega
      have ar := as_r (X := Int.tmod c (M' 102 51) - Int.tmod (M' 133 w) (M' 102 51)) (Y := Int.tdiv c (M' 102 51) - Int.tdiv (M' 133 w) (M' 102 51)) b3 d4 i
      refine ref _ (by unfold zR; omega) (fun q2 => absurd ⟨by omega, gc⟩ q2) (fun _ _ => ?_)
      rw [ea, Int.toNat_natCast, il]
    · rw [d1]
      have un : ∀ X Y : Int, asF M' w X Y (i + 1) = asF M' w X Y i + hrV (M' 134 w) X Y (M' 163 (M' 132 w + i).toNat) (M' 164 (M' 132 w + i).toNat) := fun _ _ => rfl
      generalize hX : Int.tmod c (M' 102 51) - Int.tmod (M' 133 w) (M' 102 51) = X at *
      generalize hY : Int.tdiv c (M' 102 51) - Int.tdiv (M' 133 w) (M' 102 51) = Y at *
      have m0 := mxA_0 X Y
      have mm : mxA X Y ≤ 10 := by
        unfold mxA absJ
        split <;> split <;> omega
      have nx : ∀ y : Int, y = hrV (M' 134 w) X Y (M' 163 (M' 132 w + i).toNat) (M' 164 (M' 132 w + i).toNat) → ∃ n', n' < 100 - i ∧ M' = M' ∧ ∃ (w' i' : Nat), a = (w' : Int) ∧ (w' : Int) < M' 102 58 ∧ (0 ≤ c ∧ c < M' 102 51 * M' 102 52) ∧ (wid w : Int) = (wid w' : Int) ∧ X = Int.tmod c (M' 102 51) - Int.tmod (M' 133 w') (M' 102 51) ∧ Y = Int.tdiv c (M' 102 51) - Int.tdiv (M' 133 w') (M' 102 51) ∧ M' 132 w + M' 135 w = M' 132 w' + M' 135 w' ∧ M' 132 w + i + 1 = M' 132 w' + i' ∧ (i' : Int) ≤ M' 135 w' ∧ n' = 100 - i' ∧ asF M' w X Y i + y = asF M' w' (Int.tmod c (M' 102 51) - Int.tmod (M' 133 w') (M' 102 51)) (Int.tdiv c (M' 102 51) - Int.tdiv (M' 133 w') (M' 102 51)) i' := by
        intro y hy
        refine ⟨100 - (i + 1), by omega, rfl, w, i + 1, ea, hw, gc, rfl, hX.symm, hY.symm, rfl, by omega, by omega, rfl, ?_⟩
        rw [hX, hY, un, hy]
      have nx0 : (0 : Int) = hrV (M' 134 w) X Y (M' 163 (M' 132 w + i).toNat) (M' 164 (M' 132 w + i).toNat) → ∃ n', n' < 100 - i ∧ M' = M' ∧ ∃ (w' i' : Nat), a = (w' : Int) ∧ (w' : Int) < M' 102 58 ∧ (0 ≤ c ∧ c < M' 102 51 * M' 102 52) ∧ (wid w : Int) = (wid w' : Int) ∧ X = Int.tmod c (M' 102 51) - Int.tmod (M' 133 w') (M' 102 51) ∧ Y = Int.tdiv c (M' 102 51) - Int.tdiv (M' 133 w') (M' 102 51) ∧ M' 132 w + M' 135 w = M' 132 w' + M' 135 w' ∧ M' 132 w + i + 1 = M' 132 w' + i' ∧ (i' : Int) ≤ M' 135 w' ∧ n' = 100 - i' ∧ asF M' w X Y i = asF M' w' (Int.tmod c (M' 102 51) - Int.tmod (M' 133 w') (M' 102 51)) (Int.tdiv c (M' 102 51) - Int.tdiv (M' 133 w') (M' 102 51)) i' := fun q2 => by
        have := nx 0 q2
        rw [Int.add_zero] at this
        exact this
      refine c_steps (by omega) (by omega) dr ?_
      rw [d2, Int.toNat_natCast, u3]
      unfold hrV at nx nx0
      by_cases g : sxF (M' 163 (M' 132 w + i).toNat) * mxA X Y = X ∧ syF (M' 163 (M' 132 w + i).toNat) * mxA X Y = Y
      · rw [if_pos g]
        refine ⟨by unfold zR; omega, fun q2 => by omega, fun _ => ⟨by omega, ⟨by unfold zR; omega, by unfold zR; omega⟩, fun q2 => nx0 (by rw [if_neg (fun q3 => by omega)]), fun q2 => ⟨(wid3 w3).1, nx _ (by rw [if_pos ⟨g.1, g.2, q2⟩])⟩⟩⟩
      · rw [if_neg g]
        exact ⟨zRd rfl, fun _ => nx0 (by rw [if_neg (fun q3 => g ⟨q3.1, q3.2.1⟩)]), fun q2 => absurd rfl q2⟩
