/-! a line's value: the class, all knots -/
def skV (A W : Nat → Int) : List Nat → Prop
  | [] => True
  | b :: r => A r.length = W b ∧ skV A W r
theorem skV_c {A A' W W' : Nat → Int} (s : List Nat) (h1 : ∀ j, j < s.length → A' j = A j) (h2 : ∀ b, b ∈ s → W' b = W b) (h : skV A W s) : skV A' W' s := by
  induction s with
  | nil => trivial
  | cons b r ih =>
    obtain ⟨a1, a2⟩ := h
    refine ⟨?_, ih (fun j hj => h1 j (by rw [List.length_cons]; omega)) (fun c hc => h2 c (List.mem_cons_of_mem _ hc)) a2⟩
    rw [h1 _ (by rw [List.length_cons]; omega), h2 b (List.mem_cons_self ..)]
    exact a1
theorem whatF_c {M M' : zM} (hg : ∀ x, 102 ≤ x → M' x = M x) {k w ov n h0 : Int} (hp : 0 ≤ M 102 4 ∧ M 102 4 ≤ 8) (hn : 1 ≤ n ∧ n ≤ 48) (hh : 0 ≤ h0 ∧ h0 ≤ 99) : whatF M' k w ov n h0 = whatF M k w ov n h0 := by
  obtain ⟨low, m, l1, l2, l3⟩ := low_m hn hh
  have et : M' 102 = M 102 := hg _ (by decide)
  have ek : ∀ a, kn M' k (M 102 6).toNat a = kn M k (M 102 6).toNat a := fun a => kn_congr (hg _ (by decide)) (hg _ (by decide)) (hg _ (by decide)) (hg _ (by decide)) (hg _ (by decide)) ..
  rw [whatF_lm l1 l2, whatF_lm l1 l2, et]
  rw [wH_c (M := mkM M k) (M' := mkM M' k) (by rw [mkM_k, mkM_k]; exact hg _ (by decide)) (by omega) (fun a ha => by rw [mkM_h, mkM_h, et, ek]) (fun a ha _ => by rw [mkM_v, mkM_v, et, ek]) m l3]
theorem c_pop {E : zE} {M : zM} {Q : Int → zM → Prop} {f n : Nat} (hf : zIs_6 (f : Int)) (hs : M f 6 = ((n + 1 : Nat) : Int)) (hn : n < 64) (h : Q (M (f + 6) n) (zup M f 6 (n : Int))) : zP E mX6_pop [.inr (.inr (f : Int))] M Q := by
  refine vcX6_pop _ hf ?_
  have e0 : (f : Int).toNat = f := Int.toNat_natCast f
  have e6 : ((f : Int) + 6).toNat = f + 6 := by omega
  rw [e0, e6, hs]
  refine ⟨by unfold zR; omega, fun _ => ?_, fun q => by omega⟩
  intro M1 h1
  have s1 : M1 f 6 = (n : Int) := by rw [h1, zup_r, if_pos rfl, if_pos rfl]; omega
  have e : M1 = zup M f 6 (n : Int) := by rw [h1]; congr 1; omega
  rw [s1, Int.toNat_natCast]
  refine ⟨by omega, ?_⟩
  rw [e, zup_ne _ _ _ (by omega)]
  exact h
theorem c_push {E : zE} {M : zM} {Q : Int → zM → Prop} {f n : Nat} {x : Int} (hf : zIs_6 (f : Int)) (hs : M f 6 = (n : Int)) (hn : n < 64) (h : Q 0 (zup (zup M (f + 6) n x) f 6 ((n + 1 : Nat) : Int))) : zP E mX6_push [.inr (.inr (f : Int)), .inr (.inl x)] M Q := by
  refine vcX6_push _ _ hf ?_
  have e0 : (f : Int).toNat = f := Int.toNat_natCast f
  have e6 : ((f : Int) + 6).toNat = f + 6 := by omega
  rw [e0, e6, hs, Int.toNat_natCast]
  refine ⟨by unfold zR; omega, fun q => by omega, fun _ => ⟨by omega, ?_⟩⟩
  intro M1 h1 M2 h2
  have s1 : M1 f 6 = (n : Int) := by rw [h1, zup_ne _ _ _ (by omega)]; exact hs
  rw [h2, s1, h1]
  exact h
/-- what a value of the class may change -/
def vFr (f : Nat) (M M' : zM) : Prop := (∀ x, x ≠ f → x ≠ f + 6 → x ≠ 26 → M' x = M x) ∧ (∀ j, j ≠ 6 → M' f j = M f j) ∧ (∀ j, 3 ≤ j → j ≤ 8 → zR (M' 26 j))
set_option maxHeartbeats 4000000 in
theorem c_knotValue {E : zE} {M0 M : zM} {Q : Int → zM → Prop} {k h0 : Int} {f j a : Nat} {s s' : List Nat} {W : Nat → Int} (hf : zIs_6 (f : Int)) (hR : rRdg M0) (hP : rPst M0) (hv : vFr f M0 M) (hh : 0 ≤ h0 ∧ h0 ≤ 99) (hk : zR k) (hj : j < 64) (hO : opRel M0 f j a) (h1 : stp1 M0 a s s') (hsz : M f 6 = (s.length : Int)) (hl : s.length ≤ 64) (hsk : skV (M (f + 6)) W s) (hin : ∀ b, b ∈ s → inB (W b))
    (h : ∀ M' x, vFr f M0 M' → M' (f + 6) = M (f + 6) → zL x → cut12 x = knF M0 k h0 W a → ∀ r : List Nat, s' = a :: r → M' f 6 = (r.length : Int) → skV (M (f + 6)) W r → Q x M') : zP E mX6_knotValue [.inr (.inr (f : Int)), .inl (j : Int), .inr (.inr 20), .inl h0, .inl k] M Q := by
  refine vcX6_knotValue _ _ _ _ hf ?_
  have ff : f = 6 ∨ f = 13 := by unfold zIs_6 at hf; omega
  have e1 : ((f : Int) + 1).toNat = f + 1 := by omega
  have e2 : ((f : Int) + 2).toNat = f + 2 := by omega
  have e3 : ((f : Int) + 3).toNat = f + 3 := by omega
  have je : (j : Int).toNat = j := Int.toNat_natCast j
  obtain ⟨v1, v2, v3⟩ := hv
  have g1 : M (f + 1) = M0 (f + 1) := v1 _ (by omega) (by omega) (by omega)
  have g2 : M (f + 2) = M0 (f + 2) := v1 _ (by omega) (by omega) (by omega)
  have g3 : M (f + 3) = M0 (f + 3) := v1 _ (by omega) (by omega) (by omega)
  rw [e1, e2, e3, je, g1, g2, g3]
  have ji : 0 ≤ (j : Int) ∧ (j : Int) < 64 := by omega
  have nT : f ≠ 26 := by omega
  have up : ∀ n : Int, vFr f M0 (zup M f 6 n) := fun n => ⟨fun x x1 x2 x3 => by rw [zup_ne _ _ _ x1]; exact v1 x x1 x2 x3, fun i hi => by rw [zup_r, if_pos rfl, if_neg hi]; exact v2 i hi, fun i i1 i2 => by rw [zup_ne _ _ _ (fun q => nT q.symm)]; exact v3 i i1 i2⟩
  have upS : ∀ n : Int, zup M f 6 n (f + 6) = M (f + 6) := fun n => zup_ne _ _ _ (by omega)
  have upN : ∀ n : Int, zup M f 6 n f 6 = n := fun n => by rw [zup_r, if_pos rfl, if_pos rfl]
  unfold knF at h
  rcases h1 with ⟨k1, k2, -, es⟩ | ⟨k1, k2, k3, k4, -, es⟩ | ⟨k1, b, r, f1, f2, f3, -, es⟩ | ⟨k1, b, c, r, f1, f2, f3, f4, f5, -, es⟩
  · rw [if_pos k1] at h
    rcases hO with ⟨o1, o2, o3⟩ | ⟨o1, o2, -⟩ | ⟨o1, o2⟩ | ⟨o1, o2⟩ | ⟨o1, o2⟩
    · rw [o1, o3]
      refine ⟨ji, zRd rfl, fun q => absurd rfl q, fun _ => ⟨ji, by unfold zR; omega, h M _ ⟨v1, v2, v3⟩ rfl (by unfold zL; omega) (cut_in (by unfold inB; omega)) s es hsz hsk⟩⟩
    · omega
    · omega
    · omega
    · unfold opTwo at o1
      unfold opk at o2
      exfalso
      split at o2
      · omega
      · split at o2
        · omega
        · split at o2 <;> omega
  · have n0 : ¬ M0 113 a = 0 := by omega
    rw [if_neg n0, if_pos k1] at h
    rcases hO with ⟨o1, o2, o3⟩ | ⟨o1, o2, o3, o4, o5⟩ | ⟨o1, o2⟩ | ⟨o1, o2⟩ | ⟨o1, o2⟩
    · omega
    · have zo : zR (M0 (f + 1) j) := by unfold zR; omega
      refine ⟨ji, zo, fun _ => ⟨zo, fun q => by omega, fun _ => ⟨zo, fun q => by omega, fun _ => ⟨ji, ji, ?_⟩⟩⟩, fun q => by omega⟩
      have hR1 : rRdg M := rRdg_c (fun x i hx => by
        have d : ∀ y, (y = 6 ∨ y = 13 ∨ y = 6 + 6 ∨ y = 13 + 6 ∨ y = 26) → x ≠ y := by
          intro y hy he
          subst he
          rcases hy with rfl | rfl | rfl | rfl | rfl <;> exact absurd hx (by show ¬ false = true; decide)
        rw [v1 x (d f (by omega)) (d (f + 6) (by omega)) (d _ (by simp))]) hR
      have hP1 : rPst M := rPst_c (fun x i hx => by
        have d : ∀ y, (y = 6 ∨ y = 13 ∨ y = 6 + 6 ∨ y = 13 + 6 ∨ y = 26) → x ≠ y := by
          intro y hy he
          subst he
          rcases hy with rfl | rfl | rfl | rfl | rfl <;> exact absurd hx (by show ¬ false = true; decide)
        rw [v1 x (d f (by omega)) (d (f + 6) (by omega)) (d _ (by simp))]) hP
      rw [o3, o4, o5]
      refine c_whatV hR1 hP1 v3 k2 (by unfold zR; omega) k4 hh hk ?_
      intro M2 w1 w2
      have wf := whatF_c (M := M0) (M' := M) (k := k) (w := M0 117 a) (ov := M0 118 a) (fun x hx => v1 x (by omega) (by omega) (by omega)) hP.2.1 k4 hh
      have wr := whatF_r (M := M0) (k := k) (ov := M0 118 a) hR.2.1 hP.2.1 k2 k4 hh
      rw [wf]
      refine h M2 _ ⟨fun x x1 x2 x3 => by rw [w1 x x3]; exact v1 x x1 x2 x3, fun i hi => by rw [w1 f nT]; exact v2 i hi, w2⟩ (by rw [w1 _ (by omega)]) ?_ ?_ s es (by rw [w1 f nT]; exact hsz) hsk
      · rcases wr with q | q
        · rw [q]; unfold NV zL; omega
        · unfold zL; omega
      · rcases wr with q | q
        · rw [q]; exact cut_nv
        · exact cut_in (by unfold inB; omega)
    · omega
    · omega
    · unfold opTwo at o1
      unfold opk at o2
      exfalso
      split at o2
      · omega
      · split at o2
        · omega
        · split at o2 <;> omega
  · subst f3
    obtain ⟨t1, t2⟩ := hsk
    rw [List.length_cons] at hsz hl
    have wb := hin b (List.mem_cons_self ..)
    have wl : zL (W b) := okb_L (Or.inr wb)
    rw [f1, Int.toNat_natCast] at h
    rcases k1 with k1 | k1
    · rw [if_neg (by omega), if_neg (by omega), if_pos k1] at h
      have oo : M0 (f + 1) j = 31 := by
        rcases hO with ⟨o1, o2, o3⟩ | ⟨o1, o2, -⟩ | ⟨o1, o2⟩ | ⟨o1, o2⟩ | ⟨o1, o2⟩
        · omega
        · omega
        · exact o1
        · omega
        · unfold opTwo at o1
          unfold opk at o2
          exfalso
          split at o2
          · omega
          · split at o2
            · omega
            · split at o2 <;> omega
      rw [oo]
      refine ⟨ji, zRd rfl, fun _ => ⟨zRd rfl, fun q => absurd q (by decide), fun _ => ⟨zRd rfl, fun _ => ?_, fun q => absurd q (by decide)⟩⟩, fun q => absurd q (by decide)⟩
      refine c_pop hf hsz (by omega) ?_
      rw [t1]
      refine ⟨zRd rfl, fun _ => ⟨zRd rfl, fun q => absurd rfl q, fun _ => ?_⟩, fun q => absurd q (by decide)⟩
      unfold inB at wb
      exact h _ _ (up _) (upS _) (by unfold zL; omega) (cut_in (by unfold inB; omega)) r es (upN _) t2
    · rw [if_neg (by omega), if_neg (by omega), if_neg (by omega), if_pos k1] at h
      have oo : M0 (f + 1) j = 4 := by
        rcases hO with ⟨o1, o2, o3⟩ | ⟨o1, o2, -⟩ | ⟨o1, o2⟩ | ⟨o1, o2⟩ | ⟨o1, o2⟩
        · omega
        · omega
        · omega
        · exact o1
        · unfold opTwo at o1
          unfold opk at o2
          exfalso
          split at o2
          · omega
          · split at o2
            · omega
            · split at o2 <;> omega
      rw [oo]
      refine ⟨ji, zRd rfl, fun _ => ⟨zRd rfl, fun _ => ?_, fun q => absurd q (by decide)⟩, fun q => absurd q (by decide)⟩
      refine c_pop hf hsz (by omega) ?_
      rw [t1]
      refine ⟨zRd rfl, fun q => absurd rfl q, fun _ => ⟨wl, fun q => ?_, fun q => ?_⟩⟩
      · rw [if_neg q] at h
        exact c_asNumber (Or.inl rfl) (h _ _ (up _) (upS _) (by unfold zL; omega) (cut_in (by unfold inB; omega)) r es (upN _) t2)
      · rw [if_pos q] at h
        exact c_asNumber (Or.inr rfl) (h _ _ (up _) (upS _) (by unfold zL; omega) (cut_in (by unfold inB; omega)) r es (upN _) t2)
  · subst f5
    obtain ⟨t1, t2, t3⟩ := hsk
    rw [List.length_cons, List.length_cons] at hsz hl
    rw [List.length_cons] at t1
    have wb := hin b (List.mem_cons_of_mem _ (List.mem_cons_self ..))
    have wc := hin c (List.mem_cons_self ..)
    rw [f1, f3, Int.toNat_natCast, Int.toNat_natCast, if_neg (by omega), if_neg (by omega), if_neg (by omega), if_neg (by omega)] at h
    have oo : opTwo (M0 (f + 1) j) ∧ M0 113 a = opk (M0 (f + 1) j) := by
      rcases hO with ⟨o1, o2, o3⟩ | ⟨o1, o2, -⟩ | ⟨o1, o2⟩ | ⟨o1, o2⟩ | o
      · omega
      · omega
      · omega
      · omega
      · exact o
    obtain ⟨o1, o2⟩ := oo
    rw [o2] at h
    have zo : zR (M0 (f + 1) j) := by unfold opTwo at o1; unfold zR; omega
    have o4 : ¬ M0 (f + 1) j = 4 := by unfold opTwo at o1; omega
    have o16 : ¬ M0 (f + 1) j = 16 := by unfold opTwo at o1; omega
    have o31 : ¬ M0 (f + 1) j = 31 := by unfold opTwo at o1; omega
    have mid : ¬ (5 ≤ M0 (f + 1) j ∧ M0 (f + 1) j ≤ 11) := by unfold opTwo at o1; omega
    have up2 : ∀ n n' : Int, vFr f M0 (zup (zup M f 6 n) f 6 n') := fun n n' => by
      obtain ⟨u1, u2, u3⟩ := up n
      exact ⟨fun x x1 x2 x3 => by rw [zup_ne _ _ _ x1]; exact u1 x x1 x2 x3, fun i hi => by rw [zup_r, if_pos rfl, if_neg hi]; exact u2 i hi, fun i i1 i2 => by rw [zup_ne _ _ _ (fun q => nT q.symm)]; exact u3 i i1 i2⟩
    have two : zP E mX6_pop [.inr (.inr (f : Int))] M (fun r1 M2 => ((zR (M0 (f + 1) j)) ∧ ((¬ (M0 (f + 1) j) = 4 → ((zR (M0 (f + 1) j)) ∧ ((¬ (M0 (f + 1) j) = 31 → (zP E mX6_pop [.inr (.inr (f : Int))] M2 (fun r3 M4 => (zP E mX6_join [.inl (M0 (f + 1) j), .inr (.inl r3), .inr (.inl r1)] M4 (fun r5 M6 => Q r5 M6))))) ∧ ((M0 (f + 1) j) = 31 → Q (-r1) M2)))) ∧ ((M0 (f + 1) j) = 4 → ((zL r1) ∧ ((¬ r1 = 0 → (zP E mX6_asNumber [.inl 0] M2 (fun r7 M8 => Q r7 M8))) ∧ (r1 = 0 → (zP E mX6_asNumber [.inl 1] M2 (fun r9 M10 => Q r9 M10))))))))) := by
      refine c_pop hf hsz (by omega) ?_
      rw [t1]
      refine ⟨zo, fun _ => ⟨zo, fun _ => ?_, fun q => absurd q o31⟩, fun q => absurd q o4⟩
      refine c_pop (n := r.length) hf (upN _) (by omega) ?_
      rw [upS, t2]
      refine c_join o1 wb wc (fun x x1 x2 => ?_)
      refine h _ x (up2 _ _) (by rw [zup_ne _ _ _ (by omega), upS]) x1 x2 r es (by rw [zup_r, if_pos rfl, if_pos rfl]) t3
    refine ⟨ji, zo, fun _ => ⟨zo, fun _ => two, fun q => ⟨zo, fun _ => two, fun q2 => absurd ⟨q, q2⟩ mid⟩⟩, fun q => absurd q o16⟩
