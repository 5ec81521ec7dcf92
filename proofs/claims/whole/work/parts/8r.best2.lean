/-! the reference's best() -/
theorem num2 (a : Nat) : Int.tdiv (a : Int) 2 = ((a / 2 : Nat) : Int) ∧ Int.tmod (a : Int) 2 = ((a % 2 : Nat) : Int) := ⟨rfl, rfl⟩
theorem r_canBuild {E : zE} {V M7 : zM} {Q : Int → zM → Prop} {a : Nat} (hO : refOk V) (hw : -10000 ≤ V 102 57 ∧ V 102 57 ≤ 4) (ha : a < 12) (hc : 0 ≤ V 162 (a / 2) ∧ V 162 (a / 2) < 64) (b7 : bs V M7) (h : Q (if mayP V a then 1 else 0) M7) : zP E mX12_canBuild [.inr (.inr 102), .inl (a : Int)] M7 Q := by
  have ec : M7 162 (a / 2) = V 162 (a / 2) := b7 _ _ (by decide) rfl
  have hO7 := refOk_e b7 hO
  have ew : M7 102 57 = V 102 57 := b7 _ _ (by decide) rfl
  have ek : (V 162 (a / 2)).toNat = cwk V a := rfl
  have eh : M7 129 (cwk V a) = V 129 (cwk V a) := b7 _ _ (by decide) rfl
  have et : ∀ j, M7 (wtr a) j = V (wtr a) j := fun j => by
    rcases wtr_c a with ⟨-, e⟩ | ⟨-, e⟩ <;> rw [e] <;> exact b7 _ j (by decide) rfl
  refine vcX12_canBuild _ ?_
  rw [(num2 a).1, (num2 a).2, Int.toNat_natCast, ec]
  have fin : ∀ t : Int, (t = 0 ∨ t = 1) → (if t = 0 then M7 130 (cwk V a) else M7 131 (cwk V a)) = M7 (wtr a) (cwk V a) → zP E mX12_mayWork [.inr (.inr 102), .inl (V 162 (a / 2)), .inl t] M7 (fun r1 M2 => (r1 = 0 ∨ r1 = 1) ∧ Q r1 M2) := fun t ht e => by
    refine r_mayWork hc ht hO7.2.1 hO7.2.2.2.1 (by rw [ew]; exact hw) ?_
    rw [ek, e, et, eh, ew]
    refine ⟨?_, h⟩
    split
    · exact Or.inr rfl
    · exact Or.inl rfl
  refine ⟨by unfold zR; omega, by omega, by unfold zR; omega, by unfold zR; omega, fun q => ?_, fun q => ?_⟩
  · refine fin 0 (Or.inl rfl) ?_
    rcases wtr_c a with ⟨q2, e⟩ | ⟨q2, e⟩
    · omega
    · rw [e, if_pos rfl]
  · refine fin 1 (Or.inr rfl) ?_
    rcases wtr_c a with ⟨q2, e⟩ | ⟨q2, e⟩
    · rw [e, if_neg (by decide)]
    · omega
theorem bs_on {V M7 : zM} {a : Nat} (b : bs V M7) : bs (pb V a) (zup (zup M7 (wtr a) (cwk V a) 1) 102 57 (M7 102 57 + 1)) := fun x j hx hd => by
  have r := pb_q V a x j
  rw [if_neg (by omega), if_neg (by omega)] at r
  rw [r, zup_q, zup_q, b 102 57 (by decide) rfl, b x j hx hd]
theorem bs_off {V M8 : zM} {a : Nat} (hm : mayP V a) (b : bs (pb V a) M8) : bs V (zup (zup M8 (wtr a) (cwk V a) 0) 102 57 (M8 102 57 + -1)) := fun x j hx hd => by
  have w := wtr_c a
  have e := b x j hx hd
  rw [pb_q, if_neg (by omega), if_neg (by omega)] at e
  have ew := b 102 57 (by decide) rfl
  rw [pb_q, if_neg (by omega), if_neg (by omega), if_pos ⟨rfl, rfl⟩] at ew
  rw [zup_q, zup_q]
  by_cases q1 : x = 102 ∧ j = 57
  · rw [if_pos q1, ew, q1.1, q1.2]
    omega
  · rw [if_neg q1]
    rw [if_neg q1] at e
    by_cases q2 : x = wtr a ∧ j = cwk V a
    · rw [if_pos q2, q2.1, q2.2]
      exact hm.1.symm
    · rw [if_neg q2]
      rw [if_neg q2] at e
      exact e
theorem r_buildO {E : zE} {V M7 : zM} {Q : Int → zM → Prop} {a : Nat} {o : Int} (ha : a < 12) (ho : o = 0 ∨ o = 1) (hc : 0 ≤ V 162 (a / 2) ∧ V 162 (a / 2) < 64) (ec : M7 162 (a / 2) = V 162 (a / 2))
    (h : Q 0 (zup (zup M7 (wtr a) (cwk V a) o) 102 57 (M7 102 57 + (if o = 0 then -1 else 1)))) : zP E mX12_build [.inr (.inr 102), .inl (a : Int), .inl o] M7 Q := by
  have ek : (V 162 (a / 2)).toNat = cwk V a := rfl
  refine vcX12_build _ _ ?_
  rw [(num2 a).1, (num2 a).2, Int.toNat_natCast, ec]
  refine ⟨by unfold zR; omega, by omega, by unfold zR; omega, by unfold zR; omega, fun q => ?_, fun q => ?_⟩
  · refine r_setWork hc (Or.inl rfl) ho ?_
    rcases wtr_c a with ⟨q2, e⟩ | ⟨q2, e⟩
    · omega
    · rw [if_pos rfl, ek]
      rw [e] at h
      exact h
  · refine r_setWork hc (Or.inr rfl) ho ?_
    rcases wtr_c a with ⟨q2, e⟩ | ⟨q2, e⟩
    · rw [if_neg (by decide), ek]
      rw [e] at h
      exact h
    · omega
def slS (s : zS4) (M : zM) : Prop := M 102 100 = manyS s ∧ M 102 101 = s.1 ∧ M 102 102 = s.2.1 ∧ M 102 103 = s.2.2.1 ∧ M 102 104 = s.2.2.2
theorem st5 {M2 M3 M4 M5 M6 M7 : zM} {n a b : Int} (h3 : M3 = zup M2 102 100 n) (h4 : M4 = zup M3 102 101 a) (h5 : M5 = zup M4 102 102 b) (h6 : M6 = zup M5 102 103 (M5 102 98)) (h7 : M7 = zup M6 102 104 (M6 102 99)) :
    (M7 102 100 = n ∧ M7 102 101 = a ∧ M7 102 102 = b ∧ M7 102 103 = M2 102 98 ∧ M7 102 104 = M2 102 99) ∧ (∀ x, x ≠ 102 → M7 x = M2 x) ∧ (∀ x j, dRf x j = false → M7 x j = M2 x j) := by
  refine ⟨?_, fun x hx => ?_, ?_⟩
  · subst h3 h4 h5 h6 h7
    simp [zup_q]
  · rw [h7, zup_ne _ _ _ hx, h6, zup_ne _ _ _ hx, h5, zup_ne _ _ _ hx, h4, zup_ne _ _ _ hx, h3, zup_ne _ _ _ hx]
  · have f3 : ∀ x j, dRf x j = false → M3 x j = M2 x j := by rw [h3]; exact fr_up rfl
    have f4 : ∀ x j, dRf x j = false → M4 x j = M3 x j := by rw [h4]; exact fr_up rfl
    have f5 : ∀ x j, dRf x j = false → M5 x j = M4 x j := by rw [h5]; exact fr_up rfl
    have f6 : ∀ x j, dRf x j = false → M6 x j = M5 x j := by rw [h6]; exact fr_up rfl
    have f7 : ∀ x j, dRf x j = false → M7 x j = M6 x j := by rw [h7]; exact fr_up rfl
    exact fr_t f3 (fr_t f4 (fr_t f5 (fr_t f6 f7)))
theorem many_r (s : zS4) : 0 ≤ manyS s ∧ manyS s ≤ 2 := by
  unfold manyS
  split
  · omega
  · split <;> omega
set_option maxHeartbeats 4000000 in
theorem r_tries1O {E : zE} {V M7 : zM} {Q : Int → zM → Prop} {n a b : Int} {s s' : zS4} {W : Nat} (hO : refOk V) (lr : ∀ n, n < 100 → 0 ≤ lvlF V n ∧ lvlF V n ≤ 4) (b7 : bs V M7) (l7 : ∀ n, n < 100 → M7 154 n = lvlF V n) (hW : (V 102 58).toNat = W) (hn : manyS (a, b, 0, 0) = n)
    (hs : (M7 102 100 = -1 ∧ s' = (a, b, clF V W, cbF V W)) ∨ (sOk s ∧ slS s M7 ∧ s' = offS s a b (clF V W) (cbF V W)))
    (h : ∀ M9 : zM, bs V M9 → (∀ x j, dRf x j = false → M9 x j = M7 x j) → (∀ n, n < 100 → M9 154 n = lvlF V n) → slS s' M9 → Q 0 M9) : zP E mX12_tries1 [.inr (.inr 102), .inl n, .inl a, .inl b] M7 Q := by
  obtain ⟨cw1, cw2⟩ := cost_W hO
  rw [hW] at cw1 cw2
  refine vcX12_tries1 _ _ _ ?_
  refine r_costsO hO lr b7 l7 ?_
  intro M2 f2 l2 o2 e1 e2
  rw [hW] at e1 e2
  have b2 : bs V M2 := bs_t b7 (bs_fr f2)
  have om : M2 102 100 = M7 102 100 := o2 _ (by decide) (by decide) rfl
  have oo : M2 102 101 = M7 102 101 := o2 _ (by decide) (by decide) rfl
  have ot : M2 102 102 = M7 102 102 := o2 _ (by decide) (by decide) rfl
  have ol : M2 102 103 = M7 102 103 := o2 _ (by decide) (by decide) rfl
  have ob : M2 102 104 = M7 102 104 := o2 _ (by decide) (by decide) rfl
  obtain ⟨L, hL⟩ : ∃ L, L = clF V W := ⟨_, rfl⟩
  obtain ⟨U, hU⟩ : ∃ U, U = cbF V W := ⟨_, rfl⟩
  rw [← hL] at e1 cw1 hs
  rw [← hU] at e2 cw2 hs
  have set : ∀ M3 M4 M5 M6 M8 : zM, M3 = zup M2 102 100 n → M4 = zup M3 102 101 a → M5 = zup M4 102 102 b → M6 = zup M5 102 103 (M5 102 98) → M8 = zup M6 102 104 (M6 102 99) → s' = (a, b, L, U) → Q 0 M8 := by
    intro M3 M4 M5 M6 M8 h3 h4 h5 h6 h8 hs'
    obtain ⟨⟨t1, t2, t3, t4, t5⟩, t6, t7⟩ := st5 h3 h4 h5 h6 h8
    refine h M8 (bs_t b2 (bs_fr t7)) (fr_t f2 t7) (fun i hi => by rw [t6 154 (by decide)]; exact l2 i hi) ?_
    rw [hs']
    rw [e1] at t4
    rw [e2] at t5
    exact ⟨t1.trans hn.symm, t2, t3, t4, t5⟩
  rcases hs with ⟨m0, hs'⟩ | ⟨hok, ⟨k1, k2, k3, k4, k5⟩, hs'⟩
  · rw [om, m0]
    exact ⟨zRd rfl, fun _ M3 h3 M4 h4 M5 h5 M6 h6 M8 h8 => set M3 M4 M5 M6 M8 h3 h4 h5 h6 h8 hs', fun q => absurd q (by decide)⟩
  · rw [om, ol, ob, k1, k4, k5, e1, e2]
    obtain ⟨c1, c2, c3, c4⟩ := hok
    have mr := many_r s
    have keep : s' = s → Q 0 M2 := fun q => h M2 b2 f2 l2 (by
      rw [q]
      exact ⟨om.trans k1, oo.trans k2, ot.trans k3, ol.trans k4, ob.trans k5⟩)
    refine ⟨by unfold zR; omega, fun q => absurd q (by omega), fun _ => ⟨⟨by unfold zR; omega, by unfold zR; omega⟩, fun q => ?_, fun q => ⟨⟨by unfold zR; omega, by unfold zR; omega⟩, fun q2 => ?_, fun q2 => ⟨⟨by unfold zR; omega, by unfold zR; omega⟩, fun q3 => ?_, fun q3 => ?_⟩⟩⟩⟩
    · exact fun M3 h3 M4 h4 M5 h5 M6 h6 M8 h8 => set M3 M4 M5 M6 M8 h3 h4 h5 h6 h8 (by rw [hs']; unfold offS; rw [if_pos (Or.inl q)])
    · exact keep (by rw [hs']; unfold offS; rw [if_neg (by omega)])
    · exact keep (by rw [hs']; unfold offS; rw [if_neg (by omega)])
    · exact fun M3 h3 M4 h4 M5 h5 M6 h6 M8 h8 => set M3 M4 M5 M6 M8 h3 h4 h5 h6 h8 (by rw [hs']; unfold offS; rw [if_pos (Or.inr ⟨q2, q3⟩)])
/-- what the search leaves, works aside -/
def fw (M1 M' : zM) : Prop := ∀ x j, dRf x j = false → x ≠ 130 → x ≠ 131 → (x ≠ 102 ∨ j ≠ 57) → M' x j = M1 x j
/-- the reference amid its search: works as in V -/
def rSt (M M1 V : zM) (s : zS4) (M' : zM) : Prop := bs V M' ∧ fw M1 M' ∧ (∀ n, n < 100 → M' 154 n = lvlF M n) ∧ slS s M'
theorem wtr_hi (a : Nat) : 102 < wtr a ∧ wtr a ≠ 154 := by
  rcases wtr_c a with ⟨-, e⟩ | ⟨-, e⟩ <;> rw [e] <;> decide
theorem rSt_up {M M1 V V' : zM} {s : zS4} {M' : zM} {a c : Nat} {v u : Int} (h : rSt M M1 V s M') (b : bs V' (zup (zup M' (wtr a) c v) 102 57 u)) : rSt M M1 V' s (zup (zup M' (wtr a) c v) 102 57 u) := by
  obtain ⟨-, h2, h3, h4⟩ := h
  have w := wtr_hi a
  have t : ∀ j, j ≠ 57 → zup (zup M' (wtr a) c v) 102 57 u 102 j = M' 102 j := fun j hj => by
    rw [zup_q, if_neg (fun q => hj q.2), zup_q, if_neg (by omega)]
  have w3 := wtr_c a
  refine ⟨b, fun x j hd x1 x2 x3 => ?_, fun n hn => ?_, ?_⟩
  · rw [zup_q, if_neg (by omega), zup_q, if_neg (by omega)]
    exact h2 x j hd x1 x2 x3
  · rw [zup_ne _ _ _ (by decide), zup_ne _ _ _ (fun q => w.2 q.symm)]
    exact h3 n hn
  · unfold slS
    rw [t 100 (by decide), t 101 (by decide), t 102 (by decide), t 103 (by decide), t 104 (by decide)]
    exact h4
set_option maxHeartbeats 8000000 in
/-- one more work is put, weighed and taken away -/
theorem r_weigh1 {E : zE} {M M1 V M' : zM} {X : zM → Prop} {n a b : Int} {c : Nat} {s : zS4} {W : Nat} (hO : refOk V) (hbw : bw M V) (lr : ∀ n, n < 100 → 0 ≤ lvlF M n ∧ lvlF M n ≤ 4) (hm : mayP V c) (hc12 : c < 12) (hc : 0 ≤ V 162 (c / 2) ∧ V 162 (c / 2) < 64) (hW : (V 102 58).toNat = W) (hn : manyS (a, b, 0, 0) = n) (hs : sOk s) (hS : rSt M M1 V s M')
    (h : ∀ M9 : zM, rSt M M1 V (offS s a b (clF (pb V c) W) (cbF (pb V c) W)) M9 → X M9) : zP E mX12_build [.inr (.inr 102), .inl (c : Int), .inl 1] M' (fun _ M14 => zP E mX12_tries1 [.inr (.inr 102), .inl n, .inl a, .inl b] M14 (fun _ M16 => zP E mX12_build [.inr (.inr 102), .inl (c : Int), .inl 0] M16 (fun _ M18 => X M18))) := by
  have ec : ∀ M2, bs V M2 → M2 162 (c / 2) = V 162 (c / 2) := fun M2 b2 => b2 _ _ (by decide) rfl
  have lv : ∀ n, lvlF (pb V c) n = lvlF M n := fun n => bw_lvl (bw_t hbw (bw_pb V c)) n
  refine r_buildO hc12 (Or.inr rfl) hc (ec _ hS.1) ?_
  rw [if_neg (by decide)]
  have hS1 := rSt_up (V' := pb V c) hS (bs_on hS.1)
  refine r_tries1O (V := pb V c) (s := s) (s' := offS s a b (clF (pb V c) W) (cbF (pb V c) W)) (W := W) (refOk_pb hO) (fun n hn => by rw [lv]; exact lr n hn) hS1.1 (fun n hn => by rw [lv]; exact hS1.2.2.1 n hn) (by rw [show pb V c 102 58 = V 102 58 from pb_n (by decide) (by decide) (by decide) (Or.inr (by decide)) (Or.inl (by decide))]; exact hW) hn (Or.inr ⟨hs, hS1.2.2.2, rfl⟩) ?_
  intro M9 b9 lo9 l9 s9
  have hS9 : rSt M M1 (pb V c) (offS s a b (clF (pb V c) W) (cbF (pb V c) W)) M9 := ⟨b9, fun x j hd x1 x2 x3 => (lo9 x j hd).trans (hS1.2.1 x j hd x1 x2 x3), fun n hn => by rw [l9 n hn, lv], s9⟩
  refine r_buildO hc12 (Or.inl rfl) hc (b9 _ _ (by decide) rfl |>.trans (pb_n (by decide) (by decide) (by decide) (Or.inl (by decide)) (Or.inl (by decide)))) ?_
  rw [if_pos rfl]
  exact h _ (rSt_up (V' := V) hS9 (bs_off hm b9))
set_option maxHeartbeats 8000000 in
theorem r_bestQ {E : zE} {M M1 : zM} {Q : Int → zM → Prop} {m t : Int} (hO : refOk M) (lr : ∀ n, n < 100 → 0 ≤ lvlF M n ∧ lvlF M n ≤ 4) (hw : -10000 ≤ M 102 57 ∧ M 102 57 ≤ 4) (hcd : 0 ≤ M 102 96 ∧ M 102 96 ≤ 6) (hcc : ∀ i, 0 ≤ M 162 i ∧ M 162 i < 64) (hm : 0 ≤ m ∧ m ≤ 2) (ht : 0 ≤ t ∧ t ≤ 4)
    (hf : ∀ Q' : Int → zM → Prop, (∀ M7 : zM, bs M M7 → (∀ x j, dRf x j = false → M7 x j = M1 x j) → (∀ n, n < 100 → M7 154 n = lvlF M n) → Q' 0 M7) → zP E mX12_allLevels [.inr (.inr 102)] (zup M1 102 2 0) Q')
    (h : ∀ M9 : zM, bs M M9 → fw M1 M9 → Q (if t = 0 then manyS (bst M m) else if t = 1 then (bst M m).1 else if t = 2 then (bst M m).2.1 else if t = 3 then (bst M m).2.2.1 else (bst M m).2.2.2) M9) : zP E mX12_best [.inr (.inr 102), .inl m, .inl t] M1 Q := by
  obtain ⟨N, hN, hN6⟩ : ∃ N : Nat, 2 * M 102 96 = ((2 * N : Nat) : Int) ∧ N ≤ 6 := ⟨(M 102 96).toNat, by omega, by omega⟩
  have zm : zR m := by unfold zR; omega
  have zt : zR t := by unfold zR; omega
  obtain ⟨W, hW⟩ : ∃ W, W = (M 102 58).toNat := ⟨_, rfl⟩
  have bA : bstA M m = if 1 ≤ m then bst1 M (2 * N) (bst0 M) else bst0 M := by unfold bstA; rw [hN, Int.toNat_natCast]
  have bB : bst M m = if 2 ≤ m then bst2 M (2 * N) (2 * N) (bstA M m) else bstA M m := by unfold bst; rw [hN, Int.toNat_natCast]
  have okA : sOk (bstA M m) := bstA_ok hO hcd m
  refine vcX12_best _ _ (fun n l1 l2 l3 M' => ∃ a : Nat, m = l1 ∧ t = l2 ∧ l3 = (a : Int) ∧ a ≤ 2 * N ∧ n = 1000 - a ∧ (m ≤ 0 → a = 0) ∧ rSt M M1 M (bst1 M a (bst0 M)) M')
    (fun n l1 l2 l3 M' => ∃ a : Nat, m = l1 ∧ t = l2 ∧ l3 = (a : Int) ∧ a ≤ 2 * N ∧ n = 900 - 40 * a ∧ (m ≤ 1 → a = 0) ∧ rSt M M1 M (bst2 M (2 * N) a (bstA M m)) M')
    (fun n l1 l2 l3 l4 M' => ∃ a k : Nat, m = l1 ∧ t = l2 ∧ l3 = (a : Int) ∧ l4 = ((2 * (a / 2) + 2 + k : Nat) : Int) ∧ a < 2 * N ∧ 2 * (a / 2) + 2 + k ≤ 2 * N ∧ n = 899 - 40 * a - k ∧ 1 < m ∧ mayP M a ∧ rSt M M1 (pb M a) (bst2i M a k (bst2 M (2 * N) a (bstA M m))) M') ?_ ?_ ?_ ?_
  · intro M2 h2
    rw [h2]
    refine r_isIn zm (zRd rfl) (zRd rfl) ?_
    rw [if_pos hm]
    refine ⟨zRd rfl, fun q => absurd q (by decide), fun _ => ?_⟩
    refine r_isIn zt (zRd rfl) (zRd rfl) ?_
    rw [if_pos ht]
    refine ⟨zRd rfl, fun _ => ?_, fun q => absurd q (by decide)⟩
    refine hf _ ?_
    intro M7 b7 lo7 l7 M8 h8
    have f8 : ∀ x j, dRf x j = false → M8 x j = M7 x j := by rw [h8]; exact fr_up rfl
    refine r_tries1O (V := M) (s := bst0 M) (s' := bst0 M) (W := W) hO lr (bs_t b7 (bs_fr f8)) (fun n hn => by rw [h8, zup_ne _ _ _ (by decide)]; exact l7 n hn) hW.symm rfl (Or.inl ⟨by rw [h8, zup_q, if_pos ⟨rfl, rfl⟩], by unfold bst0; rw [hW]⟩) ?_
    intro M9 b9 lo9 l9 s9
    exact ⟨1000 - 0, 0, rfl, rfl, rfl, by omega, rfl, fun _ => rfl, b9, fun x j hd _ _ _ => ((lo9 x j hd).trans (f8 x j hd)).trans (lo7 x j hd), l9, s9⟩
  · rintro n l1 l2 l3 M' ⟨a, rfl, rfl, rfl, ha, rfl, hma, hS⟩
    have ec : M' 102 96 = M 102 96 := hS.1 _ _ (by decide) rfl
    rw [ec, hN]
    have ex : (2 * N ≤ a ∨ m ≤ 0) → ∃ n', n' < 1000 - a ∧ ∃ a' : Nat, m = m ∧ t = t ∧ (0 : Int) = (a' : Int) ∧ a' ≤ 2 * N ∧ n' = 900 - 40 * a' ∧ (m ≤ 1 → a' = 0) ∧ rSt M M1 M (bst2 M (2 * N) a' (bstA M m)) M' := fun q => by
      refine ⟨900 - 40 * 0, by omega, 0, rfl, rfl, rfl, by omega, rfl, fun _ => rfl, ?_⟩
      show rSt M M1 M (bstA M m) M'
      rw [bA]
      by_cases q1 : 1 ≤ m
      · rw [if_pos q1]
        have : a = 2 * N := by omega
        rw [← this]
        exact hS
      · rw [if_neg q1]
        have : a = 0 := hma (by omega)
        rw [this] at hS
        exact hS
    refine ⟨⟨by unfold zR; omega, by unfold zR; omega⟩, fun q => ex (Or.inl (by omega)), fun q => ⟨zm, fun q2 => ex (Or.inr q2), fun q2 => ?_⟩⟩
    refine r_canBuild hO hw (by omega) (hcc _) hS.1 ?_
    have un : bst1 M (a + 1) (bst0 M) = if mayP M a then offS (bst1 M a (bst0 M)) (a : Nat) (-1) (clF (pb M a) W) (cbF (pb M a) W) else bst1 M a (bst0 M) := by rw [hW]; rfl
    by_cases q3 : mayP M a
    · rw [if_pos q3] at un
      rw [if_pos q3]
      refine ⟨zRd rfl, fun _ => ?_, fun q => absurd q (by decide)⟩
      refine r_weigh1 (M := M) (M1 := M1) (V := M) (s := bst1 M a (bst0 M)) (W := W) hO (bw_bs (bs_r M)) lr q3 (by omega) (hcc _) hW.symm (by unfold manyS; rw [if_neg (by show ¬ ((a : Int) = -1); omega), if_pos rfl]) (bst1_ok hO a (by omega) (bst0_ok hO)) hS ?_
      intro M9 hS9
      rw [← un] at hS9
      exact ⟨1000 - (a + 1), by omega, a + 1, rfl, rfl, by omega, by omega, rfl, fun q => by omega, hS9⟩
    · rw [if_neg q3] at un
      rw [if_neg q3]
      rw [← un] at hS
      exact ⟨zRd rfl, fun q => absurd rfl q, fun _ => ⟨1000 - (a + 1), by omega, a + 1, rfl, rfl, by omega, by omega, rfl, fun q => by omega, hS⟩⟩
  · rintro n l1 l2 l3 M' ⟨a, rfl, rfl, rfl, ha, rfl, hma, hS⟩
    have ec : M' 102 96 = M 102 96 := hS.1 _ _ (by decide) rfl
    rw [ec, hN]
    have ok2 : sOk (bst2 M (2 * N) a (bstA M m)) := bst2_ok hO (by omega) a (by omega) okA
    have ex : (2 * N ≤ a ∨ m ≤ 1) → ((zR t) ∧ ((¬ t = 0 → ((zR t) ∧ ((¬ t = 1 → ((zR t) ∧ ((¬ t = 2 → ((zR t) ∧ ((¬ t = 3 → Q (M' 102 104) M') ∧ (t = 3 → Q (M' 102 103) M')))) ∧ (t = 2 → Q (M' 102 102) M')))) ∧ (t = 1 → Q (M' 102 101) M')))) ∧ (t = 0 → Q (M' 102 100) M'))) := fun q => by
      have e : bst2 M (2 * N) a (bstA M m) = bst M m := by
        rw [bB]
        by_cases q1 : 2 ≤ m
        · rw [if_pos q1]
          have : a = 2 * N := by omega
          rw [this]
        · rw [if_neg q1]
          have : a = 0 := hma (by omega)
          rw [this]
          rfl
      obtain ⟨b1, lo1, -, s1, s2, s3, s4, s5⟩ := hS
      rw [e] at s1 s2 s3 s4 s5
      have h := h M' b1 lo1
      rw [s1, s2, s3, s4, s5]
      refine ⟨zt, fun q0 => ⟨zt, fun q1 => ⟨zt, fun q2 => ⟨zt, fun q3 => ?_, fun q3 => ?_⟩, fun q2 => ?_⟩, fun q1 => ?_⟩, fun q0 => ?_⟩
      · rw [if_neg q0, if_neg q1, if_neg q2, if_neg q3] at h; exact h
      · rw [if_neg q0, if_neg q1, if_neg q2, if_pos q3] at h; exact h
      · rw [if_neg q0, if_neg q1, if_pos q2] at h; exact h
      · rw [if_neg q0, if_pos q1] at h; exact h
      · rw [if_pos q0] at h; exact h
    refine ⟨⟨by unfold zR; omega, by unfold zR; omega⟩, fun q => ex (Or.inl (by omega)), fun q => ⟨zm, fun q2 => ex (Or.inr q2), fun q2 => ?_⟩⟩
    refine r_canBuild hO hw (by omega) (hcc _) hS.1 ?_
    have un : bst2 M (2 * N) (a + 1) (bstA M m) = if mayP M a then bst2i M a (2 * N - (2 * (a / 2) + 2)) (bst2 M (2 * N) a (bstA M m)) else bst2 M (2 * N) a (bstA M m) := rfl
    by_cases q3 : mayP M a
    · rw [if_pos q3]
      refine ⟨zRd rfl, fun _ => ?_, fun q => absurd q (by decide)⟩
      refine r_buildO (V := M) (by omega) (Or.inr rfl) (hcc _) (hS.1 _ _ (by decide) rfl) ?_
      rw [if_neg (by decide), (num2 a).1]
      refine ⟨by unfold zR; omega, 899 - 40 * a - 0, by omega, a, 0, rfl, rfl, rfl, by omega, by omega, by omega, rfl, q2, q3, rSt_up (V' := pb M a) hS (bs_on hS.1)⟩
    · rw [if_neg q3] at un
      rw [if_neg q3]
      rw [← un] at hS
      exact ⟨zRd rfl, fun q => absurd rfl q, fun _ => ⟨900 - 40 * (a + 1), by omega, a + 1, rfl, rfl, by omega, by omega, rfl, fun q => by omega, hS⟩⟩
  · rintro n l1 l2 l3 l4 M' ⟨a, k, rfl, rfl, rfl, rfl, ha, hk, rfl, hm2, hmy, hS⟩
    have ec : M' 102 96 = M 102 96 := (hS.1 _ _ (by decide) rfl).trans (pb_n (by decide) (by decide) (by decide) (Or.inr (by decide)) (Or.inl (by decide)))
    have cc : ∀ i, pb M a 162 i = M 162 i := fun i => pb_n (by decide) (by decide) (by decide) (Or.inl (by decide)) (Or.inl (by decide))
    have pw : pb M a 102 57 = M 102 57 + 1 := by rw [pb_q, if_neg (by omega), if_neg (by omega), if_pos ⟨rfl, rfl⟩]
    have pwd : pb M a 102 58 = M 102 58 := pb_n (by decide) (by decide) (by decide) (Or.inr (by decide)) (Or.inl (by decide))
    have ok2 : sOk (bst2i M a k (bst2 M (2 * N) a (bstA M m))) := bst2i_ok hO (by omega) k (by omega) (bst2_ok hO (by omega) a (by omega) okA)
    have w4 := hmy.2.2
    rw [ec, hN]
    refine ⟨⟨by unfold zR; omega, by unfold zR; omega⟩, fun q => ?_, fun q => ?_⟩
    · refine r_buildO (V := M) (by omega) (Or.inl rfl) (hcc _) ((hS.1 _ _ (by decide) rfl).trans (cc _)) ?_
      rw [if_pos rfl]
      have un : bst2 M (2 * N) (a + 1) (bstA M m) = if mayP M a then bst2i M a (2 * N - (2 * (a / 2) + 2)) (bst2 M (2 * N) a (bstA M m)) else bst2 M (2 * N) a (bstA M m) := rfl
      rw [if_pos hmy, show 2 * N - (2 * (a / 2) + 2) = k by omega] at un
      rw [← un] at hS
      exact ⟨900 - 40 * (a + 1), by omega, a + 1, rfl, rfl, by omega, by omega, rfl, fun q => by omega, rSt_up (V' := M) hS (bs_off hmy hS.1)⟩
    · refine r_canBuild (V := pb M a) (refOk_pb hO) (by omega) (by omega) (by rw [cc]; exact hcc _) hS.1 ?_
      have un : bst2i M a (k + 1) (bst2 M (2 * N) a (bstA M m)) = if mayP (pb M a) (2 * (a / 2) + 2 + k) then offS (bst2i M a k (bst2 M (2 * N) a (bstA M m))) (a : Nat) ((2 * (a / 2) + 2 + k : Nat) : Int) (clF (pb (pb M a) (2 * (a / 2) + 2 + k)) W) (cbF (pb (pb M a) (2 * (a / 2) + 2 + k)) W) else bst2i M a k (bst2 M (2 * N) a (bstA M m)) := by rw [hW]; rfl
      by_cases q3 : mayP (pb M a) (2 * (a / 2) + 2 + k)
      · rw [if_pos q3] at un
        rw [if_pos q3]
        refine ⟨zRd rfl, fun _ => ?_, fun q => absurd q (by decide)⟩
        refine r_weigh1 (M := M) (M1 := M1) (V := pb M a) (s := bst2i M a k (bst2 M (2 * N) a (bstA M m))) (W := W) (refOk_pb hO) (bw_pb M a) lr q3 (by omega) (by rw [cc]; exact hcc _) (by rw [pwd]; exact hW.symm) (by unfold manyS; rw [if_neg (by show ¬ ((a : Int) = -1); omega), if_neg (by show ¬ (((2 * (a / 2) + 2 + k : Nat) : Int) = -1); omega)]) ok2 hS ?_
        intro M9 hS9
        rw [← un] at hS9
        exact ⟨899 - 40 * a - (k + 1), by omega, a, k + 1, rfl, rfl, rfl, by omega, ha, by omega, rfl, hm2, hmy, hS9⟩
      · rw [if_neg q3] at un
        rw [if_neg q3]
        rw [← un] at hS
        exact ⟨zRd rfl, fun q => absurd rfl q, fun _ => ⟨899 - 40 * a - (k + 1), by omega, a, k + 1, rfl, rfl, rfl, by omega, ha, by omega, rfl, hm2, hmy, hS⟩⟩
