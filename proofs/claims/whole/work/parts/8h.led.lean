/-! who is led out: what the class keeps, and the reference's -/
noncomputable def mxr (L : Arcs) : Int := by
  classical
  exact if h : ∃ r S, mxf 202 200 201 L.length (cf L) (ct L) (aCp L) r S then Classical.choose h else 0
theorem mxr_e {L : Arcs} {r : Int} {S : Nat → Bool} (h : mxf 202 200 201 L.length (cf L) (ct L) (aCp L) r S) : mxr L = r := by
  have hx : ∃ r S, mxf 202 200 201 L.length (cf L) (ct L) (aCp L) r S := ⟨r, S, h⟩
  unfold mxr
  rw [dif_pos hx]
  obtain ⟨S', h'⟩ := Classical.choose_spec hx
  exact (mxf_one h' h).1
/-- on the source's side of every shut cut of the most -/
def inS (L : Arcs) (v : Nat) : Prop := ∃ r S, mxf 202 200 201 L.length (cf L) (ct L) (aCp L) r S ∧ S v = true
theorem inS_e {L : Arcs} {r : Int} {S : Nat → Bool} (h : mxf 202 200 201 L.length (cf L) (ct L) (aCp L) r S) {v : Nat} (hv : v < 202) : inS L v ↔ S v = true := by
  constructor
  · rintro ⟨r', S', h', e⟩
    rw [← (mxf_one h' h).2 v hv]
    exact e
  · intro e
    exact ⟨r, S, h, e⟩
/-- a world's arcs -/
def ntF (M : zM) (w : Nat) : Arcs := netL M (scF M w) (wfF M) w
noncomputable def svF (M : zM) (w : Nat) : Int := styF M (scF M w) (wfF M) w (M 102 69).toNat + mxr (ntF M w)
/-- a forecast in which people are led out -/
def ldOk (M : zM) (f w : Nat) : Prop := M f 8 = svF M w ∧ (0 ≤ svF M w ∧ svF M w ≤ ap M (M 102 69).toNat) ∧ ∀ v, v < 202 → (M (f + 7) v = 0 ∨ M (f + 7) v = 1) ∧ (M (f + 7) v = 1 ↔ inS (ntF M w) v)
def rLed (M : zM) : Prop := ∀ w : Nat, (w : Int) < M 102 58 → (M (fid w) 10 = 0 ∨ M (fid w) 10 = 1) ∧ (M (fid w) 10 = 1 → ldOk M (fid w) w)
/-- what the reference's answers may change -/
def dRf (x j : Nat) : Bool := dLd x j || dV x j || (x == 102 && [98, 99, 100, 101, 102, 103, 104].contains j)
theorem dLd_Rf (x j : Nat) (h : dLd x j = true) : dRf x j = true := by unfold dRf; rw [h]; rfl
theorem dV_Rf (x j : Nat) (h : dV x j = true) : dRf x j = true := by unfold dRf; rw [h]; simp
/-- all that the reference keeps answers by is the same (NOW, the tape, the winds aside) -/
def dNb (x j : Nat) : Bool := dRf x j || (x == 102 && [3, 1].contains j) || [103, 163, 164, 165].contains x
theorem dNb_Rf {x j : Nat} (h : dNb x j = false) : dRf x j = false := by
  unfold dNb at h
  simp only [Bool.or_eq_false_iff] at h
  exact h.1.1
def bs (M M' : zM) : Prop := ∀ x j, 102 ≤ x → dNb x j = false → M' x j = M x j
theorem bs_hi {M M' : zM} (h : ∀ x, 102 ≤ x → M' x = M x) : bs M M' := fun x j hx _ => by rw [h x hx]
theorem bs_fr {M M' : zM} (h : ∀ x j, dRf x j = false → M' x j = M x j) : bs M M' := fun x j _ hd => h x j (dNb_Rf hd)
theorem bs_r (M : zM) : bs M M := fun _ _ _ _ => rfl
theorem bs_t {M M' M2 : zM} (h : bs M M') (h2 : bs M' M2) : bs M M2 := fun x j hx hd => (h2 x j hx hd).trans (h x j hx hd)
theorem bs_eq {M M' : zM} (h : bs M M') : (∀ k, vEq M M' k) ∧ bEq M M' := by
  have g : ∀ y, 102 ≤ y → (∀ j, dNb y j = false) → M' y = M y := fun y hy hd => funext fun j => h y j hy (hd j)
  have er : M' 102 6 = M 102 6 := h _ _ (by decide) rfl
  refine ⟨fun k => ⟨fun a => ?_, g _ (by decide) (fun j => rfl), h _ _ (by decide) rfl⟩, h _ _ (by decide) rfl, fun y hy => ?_⟩
  · rw [er]
    exact kn_congr (g _ (by decide) (fun j => rfl)) (g _ (by decide) (fun j => rfl)) (g _ (by decide) (fun j => rfl)) (g _ (by decide) (fun j => rfl)) (g _ (by decide) (fun j => rfl)) ..
  · rcases hy with hy | hy | hy | hy | hy | hy | hy | hy | hy | hy <;> rw [hy] <;> exact g _ (by decide) (fun j => rfl)
theorem bs_lv {M M' : zM} (h : bs M M') (w s : Nat) : lvR M' w s = lvR M w s := by
  have g : ∀ y, 102 ≤ y → (∀ j, dNb y j = false) → M' y = M y := fun y hy hd => funext fun j => h y j hy (hd j)
  have e : gr0 M' = gr0 M := funext fun c => by
    unfold gr0
    rw [g 128 (by decide) (fun j => rfl), g 130 (by decide) (fun j => rfl), g 131 (by decide) (fun j => rfl)]
  unfold lvR
  rw [e, h 102 51 (by decide) rfl, h 102 52 (by decide) rfl, g 133 (by decide) (fun j => rfl), g 134 (by decide) (fun j => rfl), g 135 (by decide) (fun j => rfl)]
theorem bs_wf {M M' : zM} (h : bs M M') : wfF M' = wfF M := funext fun p => wfF_e (bs_eq h) (funext fun j => h _ j (by decide) rfl) (funext fun j => h _ j (by decide) rfl) p
theorem bs_sc {M M' : zM} (h : bs M M') (w : Nat) : scF M' w = scF M w := by unfold scF; rw [bs_lv h]
theorem bs_nt {M M' : zM} (h : bs M M') : ntEq M M' := by
  refine ⟨h _ _ (by decide) rfl, h _ _ (by decide) rfl, fun y hy => ?_⟩
  rcases hy with hy | hy | hy | hy | hy | hy | hy | hy | hy | hy | hy <;> rw [hy] <;> exact funext fun j => h _ j (by decide) rfl
theorem bs_ap {M M' : zM} (h : bs M M') (n : Nat) : ap M' n = ap M n := by
  induction n with
  | zero => rfl
  | succ n ih => unfold ap; rw [ih, h 142 n (by decide) rfl, h 144 n (by decide) rfl]
theorem rd_in {k : Nat} {M : zM} (hA : RelA k M) : ∀ r : Nat, (r : Int) < M 102 76 → (0 ≤ M 148 r ∧ M 148 r < M 102 69) ∧ (0 ≤ M 149 r ∧ M 149 r < M 102 69) := fun r hr => by
  obtain ⟨-, -, -, -, -, -, -, -, -, -, ⟨r1, r2, r3⟩, -⟩ := hA
  obtain ⟨-, -, -, -, -, -, b1, b2, -⟩ := r3 r hr
  exact ⟨b1, b2⟩
theorem bs_net {k : Nat} {M M' : zM} (hA : RelA k M) (h : bs M M') (w : Nat) : ntF M' w = ntF M w ∧ svF M' w = svF M w := by
  have P0 : 0 ≤ M 102 69 := by
    obtain ⟨-, -, -, -, -, -, -, -, -, ⟨p1, p2, -⟩, -⟩ := hA
    omega
  obtain ⟨n1, n2, -⟩ := net_c (sc := scF M w) (sc' := scF M w) (wf := wfF M) (wf' := wfF M) (w := w) (bs_nt h) (rd_in hA) (fun _ _ _ => rfl) (fun _ _ _ => rfl) (fun _ _ _ => rfl)
  have e1 : ntF M' w = ntF M w := by
    unfold ntF
    rw [bs_sc h, bs_wf h]
    exact n1
  refine ⟨e1, ?_⟩
  unfold svF
  rw [e1, bs_sc h, bs_wf h, h 102 69 (by decide) rfl, n2 _ (by omega)]
theorem ldOk_e {k : Nat} {M M' : zM} (hA : RelA k M) (h : bs M M') {f w : Nat} (e1 : M' f 8 = M f 8) (e2 : M' (f + 7) = M (f + 7)) (hl : ldOk M f w) : ldOk M' f w := by
  obtain ⟨n1, n2⟩ := bs_net hA h w
  unfold ldOk
  rw [n1, n2, e1, e2, h 102 69 (by decide) rfl, bs_ap h]
  exact hl
theorem rLed_e {k : Nat} {M M' : zM} (hA : RelA k M) (h : bs M M') (e : ∀ w : Nat, w < 3 → M' (fid w) 8 = M (fid w) 8 ∧ M' (fid w) 10 = M (fid w) 10 ∧ M' (fid w + 7) = M (fid w + 7)) (hl : rLed M) : rLed M' := fun w hw => by
  rw [h 102 58 (by decide) rfl] at hw
  have w3 : w < 3 := by
    obtain ⟨-, -, -, -, -, -, -, -, ⟨-, wr, -⟩, -⟩ := hA
    omega
  obtain ⟨e1, e2, e3⟩ := e w w3
  obtain ⟨l1, l2⟩ := hl w hw
  rw [e2]
  exact ⟨l1, fun q => ldOk_e hA h e1 e3 (l2 q)⟩
theorem fc_e {M M' : zM} (h : bs M M') {f w : Nat} (e : ∀ i, 1 ≤ i → i ≤ 3 → M' (f + i) = M (f + i)) (e4 : M' f 3 = M f 3) (hf : fcOk M M f w) : fcOk M' M' f w := by
  have bu : buF M' = buF M := by
    funext a c
    unfold buF
    rw [h 129 c (by decide) rfl]
  unfold fcOk at hf ⊢
  simp only [bs_lv h, bu, h 102 51 (by decide) rfl, h 102 52 (by decide) rfl, e 1 (by omega) (by omega), e 2 (by omega) (by omega), e 3 (by omega) (by omega), e4]
  exact hf
theorem rStp_e {k : Nat} {M M' : zM} (hA : RelA k M) (h : bs M M') (e : ∀ w : Nat, w < 3 → M' (fid w) 3 = M (fid w) 3 ∧ M' (fid w) 4 = M (fid w) 4 ∧ ∀ i, 1 ≤ i → i ≤ 3 → M' (fid w + i) = M (fid w + i)) (hl : rStp M) : rStp M' := fun w hw => by
  rw [h 102 58 (by decide) rfl] at hw
  have w3 : w < 3 := by
    obtain ⟨-, -, -, -, -, -, -, -, ⟨-, wr, -⟩, -⟩ := hA
    omega
  obtain ⟨e1, e2, e3⟩ := e w w3
  obtain ⟨l1, l2⟩ := hl w hw
  rw [e2]
  exact ⟨l1, fun q => fc_e h e3 e1 (l2 q)⟩
/-- what leading may change in the class: network and forecasts -/
def dC (x _j : Nat) : Bool := [57, 58, 59, 60, 61, 62, 63, 64, 65, 35, 36, 37, 38, 39, 40, 41, 42, 43, 70, 71, 72, 73, 74, 75, 76, 77, 78, 80, 81, 82, 83, 84, 85, 86, 87, 88, 90, 91, 92, 93, 94, 95, 96, 97, 98].contains x
theorem dC_hi (x j : Nat) (hx : 102 ≤ x) : dC x j = false := by
  cases hd : dC x j with
  | false => rfl
  | true =>
    exfalso
    simp only [dC, Bool.or_eq_true, beq_iff_eq, List.contains_cons, List.contains_nil, Bool.or_false] at hd
    omega
theorem C_hi {M M' : zM} (h : ∀ x j, dC x j = false → M' x j = M x j) : ∀ x, 102 ≤ x → M' x = M x := fun x hx => funext fun j => h x j (dC_hi x j hx)
theorem dC_mem {x j : Nat} (h : dC x j = true) : (57 ≤ x ∧ x ≤ 65) ∨ (35 ≤ x ∧ x ≤ 43) ∨ (70 ≤ x ∧ x ≤ 78) ∨ (80 ≤ x ∧ x ≤ 88) ∨ (90 ≤ x ∧ x ≤ 98) := by
  simp only [dC, Bool.or_eq_true, beq_iff_eq, List.contains_cons, List.contains_nil, Bool.or_false] at h
  omega
theorem dC_of {x j : Nat} (h : (57 ≤ x ∧ x ≤ 65) ∨ (35 ≤ x ∧ x ≤ 43) ∨ (70 ≤ x ∧ x ≤ 78) ∨ (80 ≤ x ∧ x ≤ 88) ∨ (90 ≤ x ∧ x ≤ 98)) : dC x j = true := by
  simp only [dC, Bool.or_eq_true, beq_iff_eq, List.contains_cons, List.contains_nil, Bool.or_false]
  omega
theorem dC_all (x j : Nat) (h : dAll x j = true) : dC x j = false := by
  cases hd : dC x j with
  | false => rfl
  | true =>
    exfalso
    simp only [dC, Bool.or_eq_true, beq_iff_eq, List.contains_cons, List.contains_nil, Bool.or_false] at hd
    have k : ∀ y, y = x → dAll y j = false → False := by
      intro y h1 h3
      subst h1
      rw [h] at h3
      cases h3
    rcases hd with hd|hd|hd|hd|hd|hd|hd|hd|hd|hd|hd|hd|hd|hd|hd|hd|hd|hd|hd|hd|hd|hd|hd|hd|hd|hd|hd|hd|hd|hd|hd|hd|hd|hd|hd|hd|hd|hd|hd|hd|hd|hd|hd|hd|hd
    all_goals exact k _ hd.symm rfl
theorem dRf_all (x j : Nat) (h : dAll x j = true) : dRf x j = false := by
  cases hd : dRf x j with
  | false => rfl
  | true =>
    exfalso
    have v := dV_all x j h
    have k : ∀ y i, y = x → i = j → dAll y i = false → False := by
      intro y i h1 h2 h3
      subst h1
      subst h2
      rw [h] at h3
      cases h3
    simp only [dRf, v, dLd, Bool.or_eq_true, Bool.and_eq_true, beq_iff_eq, List.contains_cons, List.contains_nil, Bool.or_false] at hd
    rcases hd with ((hd|hd|hd|hd|hd|hd|hd|hd|hd|hd|hd)|⟨hd, (h2|h2|h2|h2|h2)⟩)|⟨hd, (h2|h2|h2|h2|h2|h2|h2)⟩
    all_goals first | exact k _ j hd.symm rfl rfl | exact k _ _ hd.symm h2.symm rfl
/-- what leading may change, of both -/
def dK (x j : Nat) : Bool := dC x j || dRf x j
theorem dC_K (x j : Nat) (h : dC x j = true) : dK x j = true := by unfold dK; rw [h]; rfl
theorem dRf_K (x j : Nat) (h : dRf x j = true) : dK x j = true := by unfold dK; rw [h, Bool.or_true]
theorem dK_all (x j : Nat) (h : dAll x j = true) : dK x j = false := by unfold dK; rw [dC_all x j h, dRf_all x j h]; rfl
theorem dStp_K (x j : Nat) (h : dStp x j = true) : dK x j = true := by
  simp only [dStp, Bool.or_eq_true, Bool.and_eq_true, beq_iff_eq, List.contains_cons, List.contains_nil, Bool.or_false] at h
  rcases h with (h | h) | h
  · by_cases q : x < 102
    · exact dC_K x j (dC_of (by omega))
    · refine dRf_K x j (dLd_Rf x j ?_)
      simp only [dLd, Bool.or_eq_true, Bool.and_eq_true, beq_iff_eq, List.contains_cons, List.contains_nil, Bool.or_false]
      omega
  · exact dC_K x j (dC_of (by omega))
  · refine dRf_K x j (dV_Rf x j ?_)
    simp only [dV, Bool.or_eq_true, Bool.and_eq_true, beq_iff_eq, List.contains_cons, List.contains_nil, Bool.or_false]
    omega
theorem K_bs {M M' : zM} (f : ∀ x j, dK x j = false → M' x j = M x j) : bs M M' := fun x j hx hd => f x j (by unfold dK; rw [dC_hi x j hx, dNb_Rf hd]; rfl)
theorem K_lo {M M' : zM} (f : ∀ x j, dK x j = false → M' x j = M x j) {x j : Nat} (hx : x < 102) (hd : dC x j = false) : M' x j = M x j := by
  refine f x j ?_
  cases hr : dRf x j with
  | false => unfold dK; rw [hd, hr]; rfl
  | true =>
    exfalso
    simp only [dRf, dLd, dV, Bool.or_eq_true, Bool.and_eq_true, beq_iff_eq, List.contains_cons, List.contains_nil, Bool.or_false] at hr
    omega
theorem K_rel {k : Nat} {M M' : zM} (hA : RelA k M) (f : ∀ x j, dK x j = false → M' x j = M x j) : RelA k M' := by
  refine rel_c (fun x j hx => f x j (dK_all x j hx)) ?_ hA
  have kp := hA.2.2.2.2.2.2.2.2.2.2.2.2.2
  unfold rKpt at kp ⊢
  rw [f 0 6 rfl, f 0 7 rfl]
  exact kp
theorem K_cch {k : Nat} {M M' : zM} (hA : RelA k M) (f : ∀ x j, dK x j = false → M' x j = M x j) (h : vCch M) : vCch M' := by
  have b := K_bs f
  have e := bs_eq b
  obtain ⟨bf, hbk, ff, -⟩ := bk_id hA
  refine ⟨rBok_e e.2 (f 0 2 rfl) (fun i i1 i2 => funext fun j => ?_) (fun j j1 j2 => by rw [f 26 j rfl]; exact h.1.1 j j1 j2) h.1, rRaw_e e (f _ _ rfl) (funext fun j => f _ j rfl) h.2.1, rWrn_e e (funext fun j => b _ j (by decide) rfl) (funext fun j => b _ j (by decide) rfl) (b _ _ (by decide) rfl) (funext fun j => b _ j (by decide) rfl) (f _ _ rfl) (funext fun j => f _ j rfl) h.2.2⟩
  rw [hbk, Int.toNat_natCast]
  refine K_lo f (by omega) ?_
  cases hd : dC (bf + i) j with
  | false => rfl
  | true =>
    have := dC_mem hd
    omega
theorem fL_hi {f : Nat} (hf : zIs_0 (f : Int)) {M M' : zM} (h : fL f M M') : ∀ x, 102 ≤ x → M' x = M x := fun x hx => by
  have ff := fid4 hf
  exact h.1 x (by omega) (by omega) (by omega) (by omega) (by omega) (by omega) (by omega) (by omega) (by omega) (by omega) (by omega) (by omega)
theorem fL_K {f : Nat} (hf : zIs_0 (f : Int)) {M M' : zM} (h : fL f M M') : ∀ x j, dK x j = false → M' x j = M x j := fun x j hd => by
  have ff := fid4 hf
  have nC : dC x j ≠ true := fun q => by
    rw [dC_K x j q] at hd
    cases hd
  have n : ¬ ((57 ≤ x ∧ x ≤ 65) ∨ (35 ≤ x ∧ x ≤ 43) ∨ (70 ≤ x ∧ x ≤ 78) ∨ (80 ≤ x ∧ x ≤ 88) ∨ (90 ≤ x ∧ x ≤ 98)) := fun q => nC (dC_of q)
  rw [h.1 x (by omega) (by omega) (by omega) (by omega) (by omega) (by omega) (by omega) (by omega) (by omega) (by omega) (by omega) (by omega)]
set_option maxHeartbeats 4000000 in
theorem c_led {E : zE} {M : zM} {Q : Int → zM → Prop} {k w : Nat} (hA : RelA k M) (hs : rStp M) (hl : rLed M) (hn : M 0 7 = 1) (hwr : rWrn M) (hw : (w : Int) < M 102 58)
    (h : ∀ M' : zM, (∀ x j, dK x j = false → M' x j = M x j) → rStp M' → rLed M' → M' (fid w) 10 = 1 → ldOk M' (fid w) w → (∀ w' : Nat, w' < 3 → M (fid w') 10 = 1 → M' (fid w') 10 = 1) → Q (fid w : Int) M') : zP E mX11_ledForecast [.inr (.inr 0), .inl (w : Int)] M Q := by
  have w3 : w < 3 := by
    obtain ⟨-, -, -, -, -, -, -, -, ⟨-, wr, -⟩, -⟩ := hA
    omega
  have hF3 : zIs_0 (fid w : Int) := by
    rcases fid3 w3 with ⟨-, e⟩ | ⟨-, e⟩ | ⟨-, e⟩ <;> rw [e] <;> unfold zIs_0 <;> simp
  refine vcX11_ledForecast _ ?_
  refine c_stepped hA hs hw ?_
  intro M1 f1 r1 s1 k1
  have fK1 := fr_sub dStp_K f1
  have b1 := K_bs fK1
  have hA1 := st_rel f1 hA
  have same : ∀ w' : Nat, w' < 3 → M1 (fid w') 8 = M (fid w') 8 ∧ M1 (fid w') 10 = M (fid w') 10 ∧ M1 (fid w' + 7) = M (fid w' + 7) := fun w' hw' => by
    rcases fid3 hw' with ⟨-, e⟩ | ⟨-, e⟩ | ⟨-, e⟩ <;> rw [e] <;> exact ⟨f1 _ _ rfl, f1 _ _ rfl, funext fun j => f1 _ j rfl⟩
  have l1 : rLed M1 := rLed_e hA b1 same hl
  have hw1 : (w : Int) < M1 102 58 := by rw [f1 102 58 rfl]; exact hw
  obtain ⟨l2, l3⟩ := l1 w hw1
  rw [Int.toNat_natCast]
  refine ⟨hF3, by rcases l2 with q | q <;> rw [q] <;> exact zRd rfl, fun q => ?_, fun q => ⟨by omega, ?_⟩⟩
  · have q1 := l2.resolve_left q
    exact h M1 fK1 r1 l1 q1 (l3 q1) (fun w' hw' q2 => by rw [(same w' hw').2.1]; exact q2)
  · have hW : M1 33 w = (wid w : Int) := by
      obtain ⟨⟨a0, a1, a2⟩, -⟩ := hA1.1
      have : w = 0 ∨ w = 1 ∨ w = 2 := by omega
      rcases this with rfl | rfl | rfl
      · exact a0
      · exact a1
      · exact a2
    rw [Int.toNat_natCast, hW]
    have nt := nt_rel hA1 hw1
    have hA2 := hA1
    obtain ⟨-, -, -, -, -, -, hld, -, ⟨wc, wr, wwf, wb⟩, hpl, hrd, -⟩ := hA1
    obtain ⟨wt1, wt2⟩ := wt_r hld
    have wr1 : rWrn M1 := rWrn_e (bs_eq b1) (funext fun j => b1 _ j (by decide) rfl) (funext fun j => b1 _ j (by decide) rfl) (b1 _ _ (by decide) rfl) (funext fun j => b1 _ j (by decide) rfl) (f1 _ _ rfl) (funext fun j => f1 _ j rfl) hwr
    have wn1 : M1 0 7 = 1 := by rw [f1 0 7 rfl]; exact hn
    have lc : lcOk M1 (scF M1 w) (wfF M1) (fid w) w := by
      refine ⟨nt, hpl, hrd, w3, (wwf w w3).1, fun c hc => ⟨k1.2.1 c hc, (lvR_ok (s := 12) hA2 hw1 (by omega) c hc).2.2⟩, fun p hp q2 => ⟨wr1 wn1 p hp q2, ?_⟩, hF3, wt1.2⟩
      obtain ⟨p1, p2, p3, -⟩ := hpl
      have lg : 0 ≤ M1 146 p ∧ M1 146 p ≤ 5 := by
        rcases p3 p hp with ⟨a1, a2, a3, a4, a5, a6, a7, a8, a9, a10⟩ | ⟨a1, -⟩
        · exact a10
        · omega
      have := wat_r (lv := fun h => rawF M1 (h : Nat) (h : Nat)) (t := M1 145 p) lg 0 100
      unfold wfF
      omega
    refine c_leadOut lc ?_
    intro M5 r S fl5 sv5 rr5 ld5 mx5 ic5
    have fK5 := fL_K hF3 fl5
    have hi5 := fL_hi hF3 fl5
    have b5 := bs_hi hi5
    have ff := fid4 hF3
    obtain ⟨n1, n2⟩ := bs_net hA2 b5 w
    have er : mxr (ntF M1 w) = r := mxr_e mx5
    have ok5 : ldOk M5 (fid w) w := by
      unfold ldOk
      rw [n1, n2, hi5 102 (by decide), bs_ap b5]
      unfold svF
      rw [er]
      refine ⟨sv5, ⟨?_, rr5.2⟩, fun v hv => ?_⟩
      · have := (cut_src (wf := wfF M1) nt).2
        omega
      · have e := inS_e mx5 hv
        rw [ic5 v hv]
        unfold ntF
        rw [e]
        by_cases q2 : S v = true
        · rw [if_pos q2]; exact ⟨Or.inr rfl, fun _ => q2, fun _ => rfl⟩
        · rw [if_neg q2]; exact ⟨Or.inl rfl, fun q3 => absurd q3 (by decide), fun q3 => absurd q3 q2⟩
    have oth : ∀ w' : Nat, w' < 3 → w' ≠ w → ∀ i, i ≤ 8 → M5 (fid w' + i) = M1 (fid w' + i) := fun w' hw' ne i hi => by
      rcases fid3 w3 with ⟨a, e⟩ | ⟨a, e⟩ | ⟨a, e⟩ <;> rcases fid3 hw' with ⟨b, e'⟩ | ⟨b, e'⟩ | ⟨b, e'⟩ <;> first | omega | exact fl5.1 _ (by omega) (by omega) (by omega) (by omega) (by omega) (by omega) (by omega) (by omega) (by omega) (by omega) (by omega) (by omega)
    refine h M5 (fr_t fK1 fK5) ?_ ?_ ld5 ok5 (fun w' hw' q2 => by
      by_cases q3 : w' = w
      · rw [q3]; exact ld5
      · have o0 : M5 (fid w') = M1 (fid w') := oth w' hw' q3 0 (by omega)
        rw [o0, (same w' hw').2.1]
        exact q2)
    · refine rStp_e hA2 b5 (fun w' hw' => ?_) r1
      by_cases q2 : w' = w
      · rw [q2]
        refine ⟨fl5.2.2 _ (by decide) (by decide), fl5.2.2 _ (by decide) (by decide), fun i i1 i2 => fl5.1 _ (by omega) (by omega) (by omega) (by omega) (by omega) (by omega) (by omega) (by omega) (by omega) (by omega) (by omega) (by omega)⟩
      · have o0 : M5 (fid w') = M1 (fid w') := oth w' hw' q2 0 (by omega)
        exact ⟨by rw [o0], by rw [o0], fun i i1 i2 => oth w' hw' q2 i (by omega)⟩
    · intro w' hw'
      rw [hi5 102 (by decide)] at hw'
      by_cases q2 : w' = w
      · rw [q2]
        exact ⟨Or.inr ld5, fun _ => ok5⟩
      · have hw3 : w' < 3 := by omega
        obtain ⟨t1, t2⟩ := l1 w' hw'
        have o0 : M5 (fid w') = M1 (fid w') := oth w' hw3 q2 0 (by omega)
        rw [o0]
        exact ⟨t1, fun q3 => ldOk_e hA2 b5 (by rw [o0]) (oth w' hw3 q2 7 (by omega)) (t2 q3)⟩
