/-! the whole relation, and what keeps it -/
def rWds (M : zM) : Prop := ∀ i : Nat, i < 77 → M 112 i = zWin.getD i 0
def REL (k : Nat) (M : zM) : Prop := RelA k M ∧ cch M ∧ rPln M ∧ rCnd M ∧ rWds M
theorem REL_up {k : Nat} {M : zM} (h : REL k M) : REL (k + 1) M := by
  obtain ⟨⟨h0, h1, h2, h3, h4, h5, h6, ⟨w1, w2, w3⟩, h8⟩, hr⟩ := h
  exact ⟨⟨h0, h1, h2, h3, h4, h5, h6, ⟨w1, by omega, w3⟩, h8⟩, hr⟩
theorem RelA_up {k : Nat} {M : zM} (h : RelA k M) : RelA (k + 1) M := by
  obtain ⟨h0, h1, h2, h3, h4, h5, h6, ⟨w1, w2, w3⟩, h8⟩ := h
  exact ⟨h0, h1, h2, h3, h4, h5, h6, ⟨w1, by omega, w3⟩, h8⟩
theorem wds_e {M M' : zM} (e : M' 112 = M 112) (h : rWds M) : rWds M' := fun i hi => by rw [e]; exact h i hi
theorem pl_lo {m : Nat} (hm : m < 3) : plid m < 102 := by
  have := pid (plid3 hm)
  omega
theorem REL_Rf {k : Nat} {M M' : zM} (h : REL k M) (f : ∀ x j, dRf x j = false → M' x j = M x j) : REL k M' := by
  obtain ⟨hA, hc, hp, hd, hw⟩ := h
  obtain ⟨a, c⟩ := Rf_all hA hc f
  have b := bs_fr f
  exact ⟨a, c, rPln_e hA b (fun m hm => funext fun j => f _ j (dRf_lo (pl_lo hm))) hp, rCnd_e b hd, wds_e (funext fun j => f _ j rfl) hw⟩
theorem Y_bs {M M' : zM} (f : ∀ x j, dY x j = false → M' x j = M x j) : bs M M' := fun x j hx hd => f x j (by
  unfold dY dK
  rw [dC_hi x j hx, dNb_Rf hd]
  have := dW_hi x j hx
  rw [this]
  rfl)
theorem REL_Y {k : Nat} {M M' : zM} (h : REL k M) (hA' : RelA k M') (hc' : cch M') (f : ∀ x j, dY x j = false → M' x j = M x j) : REL k M' := by
  obtain ⟨hA, hc, hp, hd, hw⟩ := h
  have b := Y_bs f
  refine ⟨hA', hc', rPln_e hA b (fun m hm => funext fun j => ?_) hp, rCnd_e b hd, wds_e (funext fun j => b _ j (by decide) rfl) hw⟩
  rcases pid (plid3 hm) with e | e | e <;> rw [e] <;> exact f _ j rfl
/-- NOW, the tape and the winds alone -/
theorem REL_bs {k k' : Nat} {M M' : zM} (h : REL k M) (hA' : RelA k' M') (b : bs M M') (lo : ∀ x j, x < 102 → ¬ (x = 0 ∧ j = 0) → x ≠ 2 → x ≠ 3 → x ≠ 67 → x ≠ 68 → M' x j = M x j) : REL k' M' := by
  obtain ⟨hA, hc, hp, hd, hw⟩ := h
  have e := bs_eq b
  obtain ⟨c1, c2, c3⟩ := hc
  have l2 : ∀ x, x < 102 → x ≠ 0 → x ≠ 2 → x ≠ 3 → x ≠ 67 → x ≠ 68 → M' x = M x := fun x a1 a2 a3 a4 a5 a6 => funext fun j => lo x j a1 (fun q => a2 q.1) a3 a4 a5 a6
  have w2 : ∀ j, j ≠ 0 → M' 0 j = M 0 j := fun j hj => lo _ j (by decide) (fun q => hj q.2) (by decide) (by decide) (by decide) (by decide)
  obtain ⟨bf, hbk, ff, -⟩ := bk_id hA
  have same : ∀ w : Nat, w < 3 → ∀ i, i ≤ 8 → M' (fid w + i) = M (fid w + i) := fun w hw i hi => by
    rcases fid3 hw with ⟨-, e⟩ | ⟨-, e⟩ | ⟨-, e⟩ <;> rw [e] <;> exact l2 _ (by omega) (by omega) (by omega) (by omega) (by omega) (by omega)
  refine ⟨hA', ⟨⟨rBok_e e.2 (w2 _ (by decide)) (fun i i1 i2 => ?_) (fun j j1 j2 => by rw [l2 26 (by decide) (by decide) (by decide) (by decide) (by decide) (by decide)]; exact c1.1.1 j j1 j2) c1.1, rRaw_e e (w2 _ (by decide)) (l2 _ (by decide) (by decide) (by decide) (by decide) (by decide) (by decide)) c1.2.1, rWrn_e e (funext fun j => b _ j (by decide) rfl) (funext fun j => b _ j (by decide) rfl) (b _ _ (by decide) rfl) (funext fun j => b _ j (by decide) rfl) (w2 _ (by decide)) (l2 _ (by decide) (by decide) (by decide) (by decide) (by decide) (by decide)) c1.2.2⟩, rStp_e hA b (fun w hw => ?_) c2, rLed_e hA b (fun w hw => ?_) c3⟩, rPln_e hA b (fun m hm => ?_) hp, rCnd_e b hd, wds_e (funext fun j => b _ j (by decide) rfl) hw⟩
  · rw [hbk, Int.toNat_natCast]
    exact l2 _ (by omega) (by omega) (by omega) (by omega) (by omega) (by omega)
  · rw [show M' (fid w) = M (fid w) from same w hw 0 (by omega)]
    exact ⟨rfl, rfl, fun i i1 i2 => same w hw i (by omega)⟩
  · rw [show M' (fid w) = M (fid w) from same w hw 0 (by omega)]
    exact ⟨rfl, rfl, same w hw 7 (by omega)⟩
  · have := pid (plid3 hm)
    exact l2 _ (by omega) (by omega) (by omega) (by omega) (by omega) (by omega)
/-- cells of the book and the readings, and what the class keeps of them -/
def dKn (x j : Nat) : Bool := [108, 105, 106, 109, 107, 104, 113, 114, 115, 116, 117, 118, 119, 121, 122, 120, 112, 7, 8, 9, 10, 11, 14, 15, 16, 17, 18, 26, 27].contains x || (x == 102 && [6, 4, 32].contains j) || (x == 0 && [2, 6].contains j)
theorem kn_b {M M' : zM} (f : ∀ x j, dKn x j = true → M' x j = M x j) : (∀ k, vEq M M' k) ∧ bEq M M' := by
  have g : ∀ y, (∀ j, dKn y j = true) → M' y = M y := fun y hy => funext fun j => f y j (hy j)
  have er : M' 102 6 = M 102 6 := f _ _ rfl
  refine ⟨fun k => ⟨fun a => ?_, g _ (fun j => rfl), f _ _ rfl⟩, f _ _ rfl, fun y hy => ?_⟩
  · rw [er]
    exact kn_congr (g 108 (fun j => rfl)) (g 105 (fun j => rfl)) (g 106 (fun j => rfl)) (g 109 (fun j => rfl)) (g 107 (fun j => rfl)) ..
  · rcases hy with hy | hy | hy | hy | hy | hy | hy | hy | hy | hy <;> rw [hy] <;> exact g _ (fun j => rfl)
theorem kn_bok {k : Nat} {M M' : zM} (hA : RelA k M) (f : ∀ x j, dKn x j = true → M' x j = M x j) (h : rBok M) : rBok M' := by
  obtain ⟨bf, hbk, ff, -⟩ := bk_id hA
  refine rBok_e (kn_b f).2 (f _ _ rfl) (fun i i1 i2 => funext fun j => f _ j ?_) (fun j j1 j2 => by rw [f _ _ rfl]; exact h.1 j j1 j2) h
  rw [hbk, Int.toNat_natCast]
  have : i = 1 ∨ i = 2 ∨ i = 3 ∨ i = 4 ∨ i = 5 := by omega
  rcases ff with q | q <;> rw [q] <;> rcases this with e | e | e | e | e <;> rw [e] <;> rfl
theorem kn_raw {M M' : zM} (f : ∀ x j, dKn x j = true → M' x j = M x j) (h : rRaw M) : rRaw M' := rRaw_e (kn_b f) (f _ _ rfl) (funext fun j => f _ j rfl) h
/-- cells that lava is reckoned from, and what the class keeps of it -/
def dLv (x j : Nat) : Bool := [128, 129, 130, 131, 133, 134, 135, 71, 72, 73, 81, 82, 83, 91, 92, 93].contains x || (x == 102 && [51, 52, 58].contains j) || ([70, 80, 90].contains x && [3, 4].contains j)
theorem lv_m {M M' : zM} (f : ∀ x j, dLv x j = true → M' x j = M x j) (w s : Nat) : lvR M' w s = lvR M w s := by
  have e : gr0 M' = gr0 M := funext fun c => by
    unfold gr0
    rw [f 128 c rfl, f 130 c rfl, f 131 c rfl]
  unfold lvR
  rw [e, f 102 51 rfl, f 102 52 rfl, f 133 w rfl, f 134 w rfl, f 135 w rfl]
theorem rStp_m {k : Nat} {M M' : zM} (hA : RelA k M) (f : ∀ x j, dLv x j = true → M' x j = M x j) (h : rStp M) : rStp M' := fun w hw => by
  have w3 : w < 3 := by
    obtain ⟨-, -, -, -, -, -, -, -, ⟨-, wr, -⟩, -⟩ := hA
    rw [f 102 58 rfl] at hw
    omega
  have hw0 := hw
  rw [f 102 58 rfl] at hw
  obtain ⟨l1, l2⟩ := h w hw
  have bu : buF M' = buF M := by
    funext a c
    unfold buF
    rw [f 129 c rfl]
  have e : M' (fid w) 4 = M (fid w) 4 ∧ M' (fid w) 3 = M (fid w) 3 ∧ M' (fid w + 1) = M (fid w + 1) ∧ M' (fid w + 2) = M (fid w + 2) ∧ M' (fid w + 3) = M (fid w + 3) := by
    rcases fid3 w3 with ⟨-, e⟩ | ⟨-, e⟩ | ⟨-, e⟩ <;> rw [e] <;> exact ⟨f _ _ rfl, f _ _ rfl, funext fun j => f _ j rfl, funext fun j => f _ j rfl, funext fun j => f _ j rfl⟩
  obtain ⟨e1, e2, e3, e4, e5⟩ := e
  rw [e1]
  refine ⟨l1, fun q => ?_⟩
  have l2 := l2 q
  unfold fcOk at l2 ⊢
  simp only [lv_m f, bu, f 102 51 rfl, f 102 52 rfl, e2, e3, e4, e5]
  exact l2
theorem REL_mut2 {k k' : Nat} {M M' : zM} (h : REL k M) (hA' : RelA k' M') (bo : rBok M') (ra : rRaw M') (hs : rStp M') (fl : M' 0 7 = 0 ∧ (∀ w : Nat, w < 3 → M' (fid w) 10 = 0) ∧ (∀ m : Nat, m < 3 → M' (plid m) 0 = 0)) (cd : rCnd M') (wd : M' 112 = M 112) : REL k' M' := by
  obtain ⟨hA, ⟨c1, c2, c3⟩, hp, hd, hw⟩ := h
  obtain ⟨f1, f2, f3⟩ := fl
  refine ⟨hA', ⟨⟨bo, ra, fun q => by rw [f1] at q; exact absurd q (by decide)⟩, hs, fun w hw => ?_⟩, fun m hm => ?_, cd, wds_e wd hw⟩
  · have w3 : w < 3 := by
      obtain ⟨-, -, -, -, -, -, -, -, ⟨-, wr, -⟩, -⟩ := hA'
      omega
    rw [f2 w w3]
    exact ⟨Or.inl rfl, fun q => absurd q (by decide)⟩
  · rw [f3 m hm]
    exact ⟨Or.inl rfl, fun q => absurd q (by decide)⟩
theorem REL_mut {k k' : Nat} {M M' : zM} (h : REL k M) (hA' : RelA k' M') (f : ∀ x j, dKn x j = true → M' x j = M x j) (hs : rStp M') (fl : M' 0 7 = 0 ∧ (∀ w : Nat, w < 3 → M' (fid w) 10 = 0) ∧ (∀ m : Nat, m < 3 → M' (plid m) 0 = 0)) (cd : rCnd M') : REL k' M' := REL_mut2 h hA' (kn_bok h.1 f h.2.1.1.1) (kn_raw f h.2.1.1.2.1) hs fl cd (funext fun j => f _ j rfl)
theorem stp_0 {k : Nat} {M : zM} (hA : RelA k M) (h : ∀ w : Nat, w < 3 → M (fid w) 4 = 0) : rStp M := fun w hw => by
  have w3 : w < 3 := by
    obtain ⟨-, -, -, -, -, -, -, -, ⟨-, wr, -⟩, -⟩ := hA
    omega
  rw [h w w3]
  exact ⟨Or.inl rfl, fun q => absurd q (by decide)⟩
theorem all3 {p : Nat → Prop} (h0 : p 70) (h1 : p 80) (h2 : p 90) : ∀ w : Nat, w < 3 → p (fid w) := fun w hw => by
  rcases fid3 hw with ⟨-, e⟩ | ⟨-, e⟩ | ⟨-, e⟩ <;> rw [e]
  · exact h0
  · exact h1
  · exact h2
theorem allP {p : Nat → Prop} (h0 : p 99) (h1 : p 100) (h2 : p 101) : ∀ m : Nat, m < 3 → p (plid m) := fun m hm => by
  rcases pid (plid3 hm) with e | e | e <;> rw [e]
  · exact h0
  · exact h1
  · exact h2
theorem REL_out {k : Nat} {M M' : zM} (h : REL k M) (f1 : ∀ x, x ≠ 165 → x ≠ 102 → M' x = M x) (f2 : ∀ j, j ≠ 2 → M' 102 j = M 102 j) : REL k M' := by
  have b : bs M M' := fun x j hx hn => by
    have kk : ∀ y i, x = y → j = i → dNb y i = true → False := fun y i e1 e2 e3 => by
      rw [e1, e2, e3] at hn
      cases hn
    by_cases q : x = 102
    · rw [q]
      exact f2 j (fun q2 => kk _ _ q q2 rfl)
    · rw [f1 x (fun q2 => kk _ _ q2 rfl rfl) q]
  refine REL_bs h (rel_c (fun x j hx => ?_) ?_ h.1) b (fun x j hx _ _ _ _ _ => by rw [f1 x (by omega) (by omega)])
  · by_cases q : x = 102
    · rw [q]
      exact f2 j (fun q2 => by
        rw [q, q2] at hx
        cases hx)
    · by_cases q2 : x = 165
      · rw [q2] at hx
        cases hx
      · rw [f1 x q2 q]
  · have kp := h.1.2.2.2.2.2.2.2.2.2.2.2.2.2
    unfold rKpt at kp ⊢
    rw [f1 0 (by decide) (by decide)]
    exact kp
