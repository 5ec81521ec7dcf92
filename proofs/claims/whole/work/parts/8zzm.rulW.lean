/-! what the class keeps does not hang on the cells that a text leaves behind -/
/-- the reference's cells that reading may leave otherwise -/
def jQ (x j : Nat) : Prop := (x = 102 ∧ (j = 2 ∨ j = 1 ∨ (15 ≤ j ∧ j ≤ 21) ∨ (32 ≤ j ∧ j ≤ 49))) ∨ (113 ≤ x ∧ x ≤ 126)
def js (M M' : zM) : Prop := ∀ x j, 102 ≤ x → ¬ jQ x j → M' x j = M x j
theorem js_g {M M' : zM} (h : js M M') {y : Nat} (hy : 102 < y) (hn : y < 113 ∨ 126 < y) : M' y = M y := funext fun j => h y j (by omega) (by unfold jQ; omega)
theorem js_lv {M M' : zM} (h : js M M') (w s : Nat) : lvR M' w s = lvR M w s := by
  have e : gr0 M' = gr0 M := funext fun c => by
    unfold gr0
    rw [js_g h (y := 128) (by decide) (by decide), js_g h (y := 130) (by decide) (by decide), js_g h (y := 131) (by decide) (by decide)]
  unfold lvR
  rw [e, h 102 51 (by decide) (by unfold jQ; omega), h 102 52 (by decide) (by unfold jQ; omega), js_g h (y := 133) (by decide) (by decide), js_g h (y := 134) (by decide) (by decide), js_g h (y := 135) (by decide) (by decide)]
theorem js_sc {M M' : zM} (h : js M M') (w : Nat) : scF M' w = scF M w := by unfold scF; rw [js_lv h]
theorem js_nt {M M' : zM} (h : js M M') : ntEq M M' := by
  refine ⟨h _ _ (by decide) (by unfold jQ; omega), h _ _ (by decide) (by unfold jQ; omega), fun y hy => ?_⟩
  rcases hy with hy | hy | hy | hy | hy | hy | hy | hy | hy | hy | hy <;> rw [hy] <;> exact js_g h (by decide) (by decide)
theorem js_ap {M M' : zM} (h : js M M') (n : Nat) : ap M' n = ap M n := by
  induction n with
  | zero => rfl
  | succ n ih => unfold ap; rw [ih, js_g h (y := 142) (by decide) (by decide), js_g h (y := 144) (by decide) (by decide)]
theorem js_netO {M M' : zM} (hO : refOk M) (h : js M M') (hf : wfF M' = wfF M) (w : Nat) : ntF M' w = ntF M w ∧ svF M' w = svF M w := by
  have P0 : 0 ≤ M 102 69 := by
    have := hO.2.2.2.2.2.1.1
    omega
  obtain ⟨n1, n2, -⟩ := net_c (sc := scF M w) (sc' := scF M w) (wf := wfF M) (wf' := wfF M) (w := w) (js_nt h) (fun r hr => ⟨(hO.2.2.2.2.2.2.2 r hr).1, (hO.2.2.2.2.2.2.2 r hr).2.1⟩) (fun _ _ _ => rfl) (fun _ _ _ => rfl) (fun _ _ _ => rfl)
  have e1 : ntF M' w = ntF M w := by
    unfold ntF
    rw [js_sc h, hf]
    exact n1
  refine ⟨e1, ?_⟩
  unfold svF
  rw [e1, js_sc h, hf, h 102 69 (by decide) (by unfold jQ; omega), n2 _ (by omega)]
theorem js_br {M M' : zM} (b : js M M') (w : Nat) : brF M' w = brF M w := by
  unfold brF
  rw [b 102 51 (by decide) (by unfold jQ; omega), b 102 52 (by decide) (by unfold jQ; omega), js_sc b]
  refine sm_congr (fun j hj => ?_)
  unfold buF
  rw [js_g b (y := 129) (by decide) (by decide)]
theorem js_costO {M M' : zM} (hO : refOk M) (b : js M M') (hf : wfF M' = wfF M) (w : Nat) : clF M' w = clF M w ∧ cbF M' w = cbF M w := by
  induction w with
  | zero => exact ⟨rfl, rfl⟩
  | succ w ih =>
    unfold clF cbF
    rw [ih.1, ih.2, js_g b (y := 136) (by decide) (by decide), b 102 69 (by decide) (by unfold jQ; omega), js_ap b, (js_netO hO b hf w).2, js_br b]
    exact ⟨rfl, rfl⟩
theorem js_pb {M M' : zM} {a : Nat} (h : js M M') : js (pb M a) (pb M' a) := fun x j hx hd => by
  have e := h x j hx hd
  have ec : cwk M' a = cwk M a := by unfold cwk; rw [js_g h (y := 162) (by decide) (by decide)]
  have ew : M' 102 57 = M 102 57 := h _ _ (by decide) (by unfold jQ; omega)
  have l := pb_q M' a x j
  have r := pb_q M a x j
  rw [if_neg (by omega), if_neg (by omega)] at l r
  rw [l, r, ec, ew, e]
theorem pb_wf {M M' : zM} {a : Nat} (hf : wfF M' = wfF M) : wfF (pb M' a) = wfF (pb M a) := by rw [bw_wf (bw_pb M' a), bw_wf (bw_pb M a), hf]
theorem js_may {M M' : zM} {a : Nat} (h : js M M') : mayP M' a ↔ mayP M a := by
  have ec : cwk M' a = cwk M a := by unfold cwk; rw [js_g h (y := 162) (by decide) (by decide)]
  have e1 : ∀ j, M' (wtr a) j = M (wtr a) j := fun j => by
    rcases wtr_c a with ⟨-, e⟩ | ⟨-, e⟩ <;> rw [e] <;> rw [js_g h (by decide) (by decide)]
  show (_ ∧ _ ∧ _) ↔ (_ ∧ _ ∧ _)
  rw [ec, e1, js_g h (y := 129) (by decide) (by decide), h 102 57 (by decide) (by unfold jQ; omega)]
theorem js_bst1 {M M' : zM} (hO : refOk M) (h : js M M') (hf : wfF M' = wfF M) (n : Nat) (s : zS4) : bst1 M' n s = bst1 M n s := by
  induction n with
  | zero => rfl
  | succ a ih =>
    unfold bst1
    have c := js_costO (refOk_pb (a := a) hO) (js_pb h) (pb_wf hf)
    rw [ih, (c _).1, (c _).2, h 102 58 (by decide) (by unfold jQ; omega)]
    by_cases q : mayP M a
    · rw [if_pos q, if_pos ((js_may h).mpr q)]
    · rw [if_neg q, if_neg (fun q2 => q ((js_may h).mp q2))]
theorem js_bst2i {M M' : zM} {a : Nat} (hO : refOk M) (h : js M M') (hf : wfF M' = wfF M) (n : Nat) (s : zS4) : bst2i M' a n s = bst2i M a n s := by
  induction n with
  | zero => rfl
  | succ k ih =>
    unfold bst2i
    have c := js_costO (refOk_pb (a := 2 * (a / 2) + 2 + k) (refOk_pb (a := a) hO)) (js_pb (js_pb h)) (pb_wf (pb_wf hf))
    rw [ih, (c _).1, (c _).2, h 102 58 (by decide) (by unfold jQ; omega)]
    by_cases q : mayP (pb M a) (2 * (a / 2) + 2 + k)
    · rw [if_pos q, if_pos ((js_may (js_pb h)).mpr q)]
    · rw [if_neg q, if_neg (fun q2 => q ((js_may (js_pb h)).mp q2))]
theorem js_bst2 {M M' : zM} {N : Nat} (hO : refOk M) (h : js M M') (hf : wfF M' = wfF M) (n : Nat) (s : zS4) : bst2 M' N n s = bst2 M N n s := by
  induction n with
  | zero => rfl
  | succ a ih =>
    unfold bst2
    rw [ih, js_bst2i hO h hf]
    by_cases q : mayP M a
    · rw [if_pos q, if_pos ((js_may h).mpr q)]
    · rw [if_neg q, if_neg (fun q2 => q ((js_may h).mp q2))]
theorem js_bst {M M' : zM} (hO : refOk M) (h : js M M') (hf : wfF M' = wfF M) (m : Int) : bst M' m = bst M m := by
  unfold bst bstA bst0
  rw [js_bst2 hO h hf, js_bst1 hO h hf, (js_costO hO h hf _).1, (js_costO hO h hf _).2, h 102 58 (by decide) (by unfold jQ; omega), h 102 96 (by decide) (by unfold jQ; omega)]
theorem rPln_j {k : Nat} {M M' : zM} (hA : RelA k M) (b : js M M') (hf : wfF M' = wfF M) (e : ∀ m, m < 3 → M' (plid m) = M (plid m)) (h : rPln M) : rPln M' := fun m hm => by
  obtain ⟨h1, h2⟩ := h m hm
  unfold plS at h2 ⊢
  rw [e m hm, js_bst (refOk_A hA) b hf]
  exact ⟨h1, h2⟩
theorem rLed_j {k : Nat} {M M' : zM} (hA : RelA k M) (h : js M M') (hf : wfF M' = wfF M) (e : ∀ w : Nat, w < 3 → M' (fid w) 8 = M (fid w) 8 ∧ M' (fid w) 10 = M (fid w) 10 ∧ M' (fid w + 7) = M (fid w + 7)) (hl : rLed M) : rLed M' := fun w hw => by
  rw [h 102 58 (by decide) (by unfold jQ; omega)] at hw
  have w3 : w < 3 := by
    obtain ⟨-, -, -, -, -, -, -, -, ⟨-, wr, -⟩, -⟩ := hA
    omega
  obtain ⟨e1, e2, e3⟩ := e w w3
  obtain ⟨l1, l2⟩ := hl w hw
  rw [e2]
  refine ⟨l1, fun q => ?_⟩
  have l3 := l2 q
  obtain ⟨n1, n2⟩ := js_netO (refOk_A hA) h hf w
  unfold ldOk at l3 ⊢
  rw [n1, n2, e1, e3, h 102 69 (by decide) (by unfold jQ; omega), js_ap h]
  exact l3
/-- the lower halves of the book are the same -/
def lowE (M M' : zM) : Prop := M' 102 32 = M 102 32 ∧ (∀ l : Nat, l < 12 → M' 120 l = M 120 l ∧ M' 121 l = M 121 l ∧ M' 122 l = M 122 l) ∧ ∀ a : Nat, a < 64 → M' 119 a = M 119 a ∧ kEq M M' a
theorem knF_j {M M' : zM} {k h0 : Int} {W : Nat → Int} {a : Nat} (hv : vEq M M' k) (h : kEq M M' a) : knF M' k h0 W a = knF M k h0 W a := by
  obtain ⟨h1, h2, h3, h4, h5, h6⟩ := h
  unfold knF
  rw [h1, h2, h3, h4, h5, h6, whatF_e hv]
theorem lineF_j {M M' : zM} {k : Int} {l : Nat} {st : Nat → List Nat} (hv : vEq M M' k) (hl : l < 12) (ok : lnOk M l st) (e : lowE M M') (h0 : Int) : lineF M' k h0 l = lineF M k h0 l := by
  obtain ⟨-, e2, e3⟩ := e
  obtain ⟨-, f1, m1⟩ := e2 l hl
  obtain ⟨o1, o2, o3, -, o4⟩ := ok
  have key : ∀ i : Nat, (i : Int) ≤ M 122 l → lnV M' k h0 l i = lnV M k h0 l i := by
    intro i
    induction i with
    | zero => intro _; rfl
    | succ i ih =>
      intro hi
      obtain ⟨a, a1, a2, -⟩ := o4 i (by omega)
      have g := (e3 (M 121 l + (i : Int)).toNat (by omega)).1
      have kq : ∀ W, knF M' k h0 W a = knF M k h0 W a := fun W => knF_j hv (e3 a a2).2
      unfold lnV
      rw [ih (by omega), f1, g, a1, Int.toNat_natCast]
      simp only [kq]
  unfold lineF
  rw [m1, key _ (by omega)]
theorem rawF_j {M M' : zM} {k : Int} (hB : rBok M) (hl : 0 ≤ M 102 32 ∧ M 102 32 ≤ 12) (hv : vEq M M' k) (e : lowE M M') (h0 : Int) : rawF M' h0 k = rawF M h0 k := by
  have key : ∀ l : Nat, (l : Int) ≤ M 102 32 → rwF M' h0 k l = rwF M h0 k l := by
    intro l
    induction l with
    | zero => intro _; rfl
    | succ l ih =>
      intro hl2
      obtain ⟨-, ⟨st, ok⟩, -⟩ := hB.2 l (by omega)
      unfold rwF
      rw [ih (by omega), lineF_j hv (by omega) ok e, (e.2.1 l (by omega)).1]
  unfold rawF
  rw [e.1, key _ (by omega)]
theorem wfF_j {M M' : zM} (hB : rBok M) (hl : 0 ≤ M 102 32 ∧ M 102 32 ≤ 12) (hv : ∀ k, vEq M M' k) (e : lowE M M') (h : js M M') : wfF M' = wfF M := funext fun p => by
  unfold wfF
  rw [js_g h (y := 145) (by decide) (by decide), js_g h (y := 146) (by decide) (by decide)]
  congr 1
  funext i
  exact rawF_j hB hl (hv _) e _
theorem rBok_j {M M' : zM} {f : Nat} (hB : rBok M) (hl : 0 ≤ M 102 32 ∧ M 102 32 ≤ 12) (e : lowE M M') (hbk : M 0 2 = (f : Int)) (hbk' : M' 0 2 = (f : Int)) (hf : ∀ i, 1 ≤ i → i ≤ 5 → M' (f + i) = M (f + i)) (ht : M' 26 = M 26) : rBok M' := by
  refine ⟨fun j j1 j2 => by rw [ht]; exact hB.1 j j1 j2, fun l hl2 => ?_⟩
  rw [e.1] at hl2
  obtain ⟨⟨a1, a1'⟩, ⟨st, ok⟩, bk⟩ := hB.2 l hl2
  obtain ⟨-, e2, e3⟩ := e
  obtain ⟨v1, f1, m1⟩ := e2 l (by omega)
  have ok' := ok
  obtain ⟨o1, o2, o3, o4, o5⟩ := ok
  rw [hbk, Int.toNat_natCast] at a1 bk
  rw [hbk', Int.toNat_natCast, v1, hf 4 (by omega) (by omega)]
  refine ⟨⟨a1, a1'⟩, ⟨st, ?_⟩, ?_⟩
  · unfold lnOk
    rw [f1, m1]
    refine ⟨o1, o2, o3, o4, fun i hi => ?_⟩
    obtain ⟨a, b1, b2, b3, b4⟩ := o5 i hi
    exact ⟨a, by rw [(e3 _ (by omega)).1]; exact b1, b2, b3, stp1_g (e3 a b2).2 b4⟩
  · obtain ⟨c1, c2, c3, c4⟩ := bk
    unfold bkRel
    rw [f1, m1, hf 5 (by omega) (by omega)]
    refine ⟨c1, c2, c3, fun i hi => ?_⟩
    obtain ⟨a, b1, b2, b3, b4⟩ := o5 i hi
    have c := c4 i hi
    rw [(e3 _ (by omega)).1, b1, Int.toNat_natCast]
    rw [b1, Int.toNat_natCast] at c
    refine opRel_g (e3 a b2).2 ⟨?_, ?_, ?_⟩ c
    · rw [hf 1 (by omega) (by omega)]
    · rw [hf 2 (by omega) (by omega)]
    · rw [hf 3 (by omega) (by omega)]
