/-! the reference: whatValue, over what is known -/
def gtN (a v : Int) : Int := if a = NV ∨ a < v then v else a
def ltN (a v : Int) : Int := if a = NV ∨ v < a then v else a
def okv (x : Int) : Prop := x = NV ∨ (-9999 ≤ x ∧ x ≤ 9999)
/-- the first n posts in an hour: count, gaps, sum, most, least, the greatest here -/
def wP (M : zM) (ov hr : Int) (s : Int × Int × Int × Int × Int × Int) : Nat → Int × Int × Int × Int × Int × Int
  | 0 => s
  | n + 1 =>
    let t := wP M ov hr s n
    if M 104 n = ov then
      if M 110 (100 * (n : Int) + hr).toNat = 0 then (t.1, t.2.1 + 1, t.2.2)
      else (t.1 + 1, t.2.1, t.2.2.1 + M 111 (100 * (n : Int) + hr).toNat, gtN t.2.2.2.1 (M 111 (100 * (n : Int) + hr).toNat), ltN t.2.2.2.2.1 (M 111 (100 * (n : Int) + hr).toNat), gtN t.2.2.2.2.2 (M 111 (100 * (n : Int) + hr).toNat))
    else t
/-- the first n hours from low on: count, gaps, sum, most, least, of the earliest, of the latest -/
def wH (M : zM) (ov low : Int) (np : Nat) : Nat → Int × Int × Int × Int × Int × Int × Int
  | 0 => (0, 0, 0, NV, NV, NV, NV)
  | n + 1 =>
    let t := wH M ov low np n
    let u := wP M ov (low + n) (t.1, t.2.1, t.2.2.1, t.2.2.2.1, t.2.2.2.2.1, NV) np
    (u.1, u.2.1, u.2.2.1, u.2.2.2.1, u.2.2.2.2.1, (if u.2.2.2.2.2 = NV then t.2.2.2.2.2.1 else if t.2.2.2.2.2.1 = NV then u.2.2.2.2.2 else t.2.2.2.2.2.1), (if u.2.2.2.2.2 = NV then t.2.2.2.2.2.2 else u.2.2.2.2.2))
def wWhat (w : Int) (t : Int × Int × Int × Int × Int × Int × Int) : Int :=
  if w = 5 then t.2.2.2.2.2.2 else if w = 6 then t.2.2.2.2.2.1 else if w = 7 then t.2.2.1 else if w = 8 then t.2.2.2.1 else if w = 9 then t.2.2.2.2.1 else if w = 10 then t.1 else t.2.1
theorem okv_L {x : Int} (h : okv x) : zL x := by unfold okv NV at h; unfold zL; omega
theorem okv_gt {a v : Int} (ha : okv a) (hv : -9999 ≤ v ∧ v ≤ 9999) : okv (gtN a v) := by unfold okv gtN at *; grind
theorem okv_lt {a v : Int} (ha : okv a) (hv : -9999 ≤ v ∧ v ≤ 9999) : okv (ltN a v) := by unfold okv ltN at *; grind
theorem r_whatValue {E : zE} {M : zM} {Q : Int → zM → Prop} {w ov n h0 : Int} (hw : zR w) (ho : zR ov) (hn : 1 ≤ n ∧ n ≤ 48) (hh : 0 ≤ h0 ∧ h0 ≤ 99) (hp : 0 ≤ M 102 4 ∧ M 102 4 ≤ 8) (hk : ∀ i, zR (M 104 i)) (hs : ∀ i, (M 110 i = 0 ∨ M 110 i = 1)) (hv : ∀ i, -9999 ≤ M 111 i ∧ M 111 i ≤ 9999)
    (h : Q (wWhat w (wH M ov (if h0 - n + 1 < 0 then 0 else h0 - n + 1) (M 102 4).toNat (h0 + 1 - (if h0 - n + 1 < 0 then 0 else h0 - n + 1)).toNat)) M) : zP E mX12_whatValue [.inr (.inr 102), .inl w, .inl ov, .inl n, .inl h0] M Q := by
  generalize hlow : (if h0 - n + 1 < 0 then 0 else h0 - n + 1) = low at h
  have hlo : 0 ≤ low ∧ low ≤ h0 ∧ h0 - low ≤ 47 := by grind
  refine vcX12_whatValue w ov n h0
    (fun m l1 l2 l4 l6 l7 l8 l10 l12 l14 l16 l18 M' => M' = M ∧ l1 = w ∧ l2 = ov ∧ l4 = h0 ∧ low ≤ l18 ∧ l18 ≤ h0 + 1 ∧ m = 20 * (h0 + 1 - l18).toNat ∧ (l6, l7, l8, l10, l12, l14, l16) = wH M ov low (M 102 4).toNat (l18 - low).toNat ∧ (0 ≤ l6 ∧ l6 ≤ 8 * (l18 - low)) ∧ (0 ≤ l7 ∧ l7 ≤ 8 * (l18 - low)) ∧ (okv l10 ∧ okv l12 ∧ okv l14 ∧ okv l16))
    (fun m l1 l2 l4 l6 l7 l8 l10 l12 l14 l16 l18 l19 l21 M' => M' = M ∧ l1 = w ∧ l2 = ov ∧ l4 = h0 ∧ low ≤ l18 ∧ l18 ≤ h0 ∧ 0 ≤ l21 ∧ l21 ≤ M 102 4 ∧ m + l21.toNat + 1 = 20 * (h0 + 1 - l18).toNat ∧
      (∃ t, t = wH M ov low (M 102 4).toNat (l18 - low).toNat ∧ l14 = t.2.2.2.2.2.1 ∧ l16 = t.2.2.2.2.2.2 ∧ (l6, l7, l8, l10, l12, l19) = wP M ov l18 (t.1, t.2.1, t.2.2.1, t.2.2.2.1, t.2.2.2.2.1, NV) l21.toNat) ∧ (0 ≤ l6 ∧ l6 ≤ 8 * (l18 - low) + l21) ∧ (0 ≤ l7 ∧ l7 ≤ 8 * (l18 - low) + l21) ∧ (okv l10 ∧ okv l12 ∧ okv l14 ∧ okv l16 ∧ okv l19))
    ?_ ?_ ?_
  · have hi : ∀ x, x = low → ∃ n', n' = 20 * (h0 + 1 - x).toNat := fun x _ => ⟨_, rfl⟩
    have key : ∀ x, x = low → ((0 : Int), (0 : Int), (0 : Int), (-9223372036854775808 : Int), (-9223372036854775808 : Int), (-9223372036854775808 : Int), (-9223372036854775808 : Int)) = wH M ov low (M 102 4).toNat (x - low).toNat := fun x hx => by subst hx; rw [Int.sub_self]; rfl
    refine ⟨⟨by omega, by omega⟩, fun hc => ?_, fun hc => ?_⟩
    · have hx : h0 - n + 1 = low := by grind
      exact ⟨_, rfl, rfl, rfl, rfl, by omega, by omega, rfl, key _ hx, ⟨by omega, by omega⟩, ⟨by omega, by omega⟩, Or.inl rfl, Or.inl rfl, Or.inl rfl, Or.inl rfl⟩
    · have hx : 0 = low := by grind
      exact ⟨_, rfl, rfl, rfl, rfl, by omega, by omega, rfl, key _ hx, ⟨by omega, by omega⟩, ⟨by omega, by omega⟩, Or.inl rfl, Or.inl rfl, Or.inl rfl, Or.inl rfl⟩
  · rintro m l1 l2 l4 l6 l7 l8 l10 l12 l14 l16 l18 M' ⟨rfl, rfl, rfl, rfl, a1, a2, rfl, a3, a4, a5, a6, a7, a8, a9⟩
    refine ⟨⟨⟨by omega, by omega⟩, by omega, by omega⟩, fun hc => ?_, fun hc => ?_⟩
    · have he : l18 = l4 + 1 := by omega
      rw [he] at a3
      rw [← a3] at h
      unfold wWhat at h
      refine ⟨hw, fun g => ⟨⟨by omega, by omega⟩, ?_⟩, fun g => ?_, fun g => ?_, fun g => ?_, fun g => ?_, fun g => ?_, fun g => ⟨⟨by omega, by omega⟩, ?_⟩⟩
      · rw [if_neg (by omega), if_neg (by omega), if_neg (by omega), if_neg (by omega), if_neg (by omega), if_neg (by omega)] at h
        exact h
      all_goals (subst g; exact h)
    · exact ⟨20 * (l4 + 1 - l18).toNat - 1, by omega, rfl, rfl, rfl, rfl, a1, hc, by omega, hp.1, by simp; omega, ⟨_, rfl, by rw [← a3], by rw [← a3], by rw [← a3]; rfl⟩, by omega, by omega, a6, a7, a8, a9, Or.inl rfl⟩
  · rintro m l1 l2 l4 l6 l7 l8 l10 l12 l14 l16 l18 l19 l21 M' ⟨rfl, rfl, rfl, rfl, a1, a2, b1, b2, b3, ⟨t, ht, t1, t2, t3⟩, a4, a5, a6, a7, a8, a9, a10⟩
    have z10 := okv_L a6
    have z12 := okv_L a7
    have z14 := okv_L a8
    have z19 := okv_L a10
    have hs1 : (l21 + 1).toNat = l21.toNat + 1 := by omega
    have hcast : ((l21.toNat : Nat) : Int) = l21 := by omega
    refine ⟨⟨⟨by omega, by omega⟩, by omega, by omega⟩, fun hc => ?_, fun hc => ⟨⟨b1, by omega⟩, ⟨hk _, ho⟩, fun hd => ⟨by omega, ?_⟩, fun hd => ?_⟩⟩
    · have he : l21 = M' 102 4 := by omega
      rw [he] at t3
      have hs2 : (l18 + 1 - low).toNat = (l18 - low).toNat + 1 := by omega
      have hcs : low + (((l18 - low).toNat : Nat) : Int) = l18 := by omega
      have kk : wH M' l2 low (M' 102 4).toNat (l18 + 1 - low).toNat = (l6, l7, l8, l10, l12, (if l19 = NV then l14 else if l14 = NV then l19 else l14), (if l19 = NV then l16 else l19)) := by
        rw [hs2, wH, ← ht, hcs, ← t3, t1, t2]
      refine ⟨z19, fun c1 => ⟨z14, fun c2 => ?_, fun c2 => ?_⟩, fun c1 => ?_⟩
      · exact ⟨_, (by omega : 20 * (l4 + 1 - (l18 + 1)).toNat < m), rfl, rfl, rfl, rfl, by omega, by omega, rfl, by rw [kk]; grind [NV], by omega, by omega, a6, a7, a8, a10⟩
      · exact ⟨_, (by omega : 20 * (l4 + 1 - (l18 + 1)).toNat < m), rfl, rfl, rfl, rfl, by omega, by omega, rfl, by rw [kk]; grind [NV], by omega, by omega, a6, a7, a10, a10⟩
      · exact ⟨_, (by omega : 20 * (l4 + 1 - (l18 + 1)).toNat < m), rfl, rfl, rfl, rfl, by omega, by omega, rfl, by rw [kk]; grind [NV], by omega, by omega, a6, a7, a8, a9⟩
    · have hb : 0 ≤ 100 * l21 + l18 ∧ 100 * l21 + l18 < 800 := by omega
      have hsv := hs (100 * l21 + l18).toNat
      have hvv := hv (100 * l21 + l18).toNat
      have zv : zL (M' 111 (100 * l21 + l18).toNat) := ⟨by omega, by omega⟩
      have step : ∀ mo le he, mo = gtN l10 (M' 111 (100 * l21 + l18).toNat) → le = ltN l12 (M' 111 (100 * l21 + l18).toNat) → he = gtN l19 (M' 111 (100 * l21 + l18).toNat) → ¬ M' 110 (100 * l21 + l18).toNat = 0 → ∃ n', n' < m ∧ (M' = M' ∧ l1 = l1 ∧ l2 = l2 ∧ l4 = l4 ∧ low ≤ l18 ∧ l18 ≤ l4 ∧ 0 ≤ l21 + 1 ∧ l21 + 1 ≤ M' 102 4 ∧ n' + (l21 + 1).toNat + 1 = 20 * (l4 + 1 - l18).toNat ∧
          (∃ t, t = wH M' l2 low (M' 102 4).toNat (l18 - low).toNat ∧ l14 = t.2.2.2.2.2.1 ∧ l16 = t.2.2.2.2.2.2 ∧ (l6 + 1, l7, l8 + M' 111 (100 * l21 + l18).toNat, mo, le, he) = wP M' l2 l18 (t.1, t.2.1, t.2.2.1, t.2.2.2.1, t.2.2.2.2.1, NV) (l21 + 1).toNat) ∧ (0 ≤ l6 + 1 ∧ l6 + 1 ≤ 8 * (l18 - low) + (l21 + 1)) ∧ (0 ≤ l7 ∧ l7 ≤ 8 * (l18 - low) + (l21 + 1)) ∧ (okv mo ∧ okv le ∧ okv l14 ∧ okv l16 ∧ okv he)) := by
        rintro mo le he rfl rfl rfl hnz
        refine ⟨m - 1, by omega, rfl, rfl, rfl, rfl, a1, a2, by omega, by omega, by omega, ⟨t, ht, t1, t2, ?_⟩, by omega, by omega, okv_gt a6 hvv, okv_lt a7 hvv, a8, a9, okv_gt a10 hvv⟩
        rw [hs1, wP, ← t3, hcast, if_pos hd, if_neg hnz]
      refine ⟨by unfold zR; omega, fun hz => ⟨hb, ⟨by omega, by omega⟩, ?_⟩, fun hz => ?_⟩
      · refine ⟨z19, fun c1 => ⟨z10, fun c2 => ⟨z12, fun c3 => ?_, fun c3 => ⟨⟨zv, z12⟩, fun c4 => ?_, fun c4 => ?_⟩⟩, fun c2 => ⟨⟨zv, z10⟩, fun c5 => ⟨z12, fun c3 => ?_, fun c3 => ⟨⟨zv, z12⟩, fun c4 => ?_, fun c4 => ?_⟩⟩, fun c5 => ⟨z12, fun c3 => ?_, fun c3 => ⟨⟨zv, z12⟩, fun c4 => ?_, fun c4 => ?_⟩⟩⟩⟩, fun c1 => ⟨⟨zv, z19⟩, fun c6 => ⟨z10, fun c2 => ⟨z12, fun c3 => ?_, fun c3 => ⟨⟨zv, z12⟩, fun c4 => ?_, fun c4 => ?_⟩⟩, fun c2 => ⟨⟨zv, z10⟩, fun c5 => ⟨z12, fun c3 => ?_, fun c3 => ⟨⟨zv, z12⟩, fun c4 => ?_, fun c4 => ?_⟩⟩, fun c5 => ⟨z12, fun c3 => ?_, fun c3 => ⟨⟨zv, z12⟩, fun c4 => ?_, fun c4 => ?_⟩⟩⟩⟩, fun c6 => ⟨z10, fun c2 => ⟨z12, fun c3 => ?_, fun c3 => ⟨⟨zv, z12⟩, fun c4 => ?_, fun c4 => ?_⟩⟩, fun c2 => ⟨⟨zv, z10⟩, fun c5 => ⟨z12, fun c3 => ?_, fun c3 => ⟨⟨zv, z12⟩, fun c4 => ?_, fun c4 => ?_⟩⟩, fun c5 => ⟨z12, fun c3 => ?_, fun c3 => ⟨⟨zv, z12⟩, fun c4 => ?_, fun c4 => ?_⟩⟩⟩⟩⟩⟩
        all_goals (refine step _ _ _ ?_ ?_ ?_ hz <;> grind [gtN, ltN, NV])
      · refine ⟨m - 1, by omega, rfl, rfl, rfl, rfl, a1, a2, by omega, by omega, by omega, ⟨t, ht, t1, t2, ?_⟩, by omega, by omega, a6, a7, a8, a9, a10⟩
        rw [hs1, wP, ← t3, hcast, if_pos hd, if_pos hz]
    · refine ⟨m - 1, by omega, rfl, rfl, rfl, rfl, a1, a2, by omega, by omega, by omega, ⟨t, ht, t1, t2, ?_⟩, by omega, by omega, a6, a7, a8, a9, a10⟩
      rw [hs1, wP, ← t3, hcast, if_neg hd]
