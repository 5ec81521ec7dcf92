/-! one call on fresh objects: the pairs -/
theorem p1_wt {M : zM} (h : rF M) : M 102 51 * M 102 52 = 16 := by
  rw [h.1.2.2.2.2.2.2.2.2.2.2.2.2.2.2.1, h.1.2.2.2.2.2.2.2.2.2.2.2.2.2.2.2]
  rfl
theorem p1_lava {E : zE} {M : zM} {Q : Int → zM → Prop} {a b c d : Int} (ha : zR a) (hF : rF M) (h : ∀ M', Q (-1000) M') : zP E mX12_lava [.inr (.inr 102), .inl a, .inl b, .inl c, .inl d] M Q := by
  refine vcX12_lava _ _ _ _ ?_
  rintro M1 rfl
  have e := (rF_thrown hF).1.2.2.2.2.2.2.2.2.2.2.1
  refine r_isWorld ha (by rw [e]; decide) ?_
  rw [e, if_neg (by omega)]
  exact ⟨zRd rfl, fun _ => h _, fun hc => absurd rfl hc⟩
theorem p1_reached {E : zE} {M : zM} {Q : Int → zM → Prop} {a b : Int} (ha : zR a) (hF : rF M) (h : ∀ M', Q (-1) M') : zP E mX12_reached [.inr (.inr 102), .inl a, .inl b] M Q := by
  refine vcX12_reached _ _ ?_
  rintro M1 rfl
  have e := (rF_thrown hF).1.2.2.2.2.2.2.2.2.2.2.1
  refine r_isWorld ha (by rw [e]; decide) ?_
  rw [e, if_neg (by omega)]
  exact ⟨zRd rfl, fun _ => h _, fun hc => absurd rfl hc⟩
theorem p1_ash {E : zE} {M : zM} {Q : Int → zM → Prop} {a b : Int} (ha : zR a) (hF : rF M) (h : ∀ M', Q (-1) M') : zP E mX12_ash [.inr (.inr 102), .inl a, .inl b] M Q := by
  refine vcX12_ash _ _ (fun _ _ _ _ _ _ => False) (fun _ _ _ _ _ _ _ => False) ?_ (fun _ _ _ _ _ _ h => h.elim) (fun _ _ _ _ _ _ _ h => h.elim)
  rintro M1 rfl
  have e := (rF_thrown hF).1.2.2.2.2.2.2.2.2.2.2.1
  refine r_isWorld ha (by rw [e]; decide) ?_
  rw [e, if_neg (by omega)]
  exact ⟨zRd rfl, fun _ => h _, fun hc => absurd rfl hc⟩
theorem p1_ledOut {E : zE} {M : zM} {Q : Int → zM → Prop} {a b : Int} (ha : zR a) (hF : rF M) (h : ∀ M', Q (-1) M') : zP E mX12_ledOut [.inr (.inr 102), .inl a, .inl b] M Q := by
  refine vcX12_ledOut _ _ ?_
  rintro M1 rfl
  have e := (rF_thrown hF).1.2.2.2.2.2.2.2.2.2.2.1
  refine r_isWorld ha (by rw [e]; decide) ?_
  rw [e, if_neg (by omega)]
  exact ⟨zRd rfl, fun _ => h _, fun hc => absurd rfl hc⟩
theorem p1_cut {E : zE} {M : zM} {Q : Int → zM → Prop} {a b c : Int} (ha : zR a) (hF : rF M) (h : ∀ M', Q (-1) M') : zP E mX12_cut [.inr (.inr 102), .inl a, .inl b, .inl c] M Q := by
  refine vcX12_cut _ _ _ ?_
  rintro M1 rfl
  have e := (rF_thrown hF).1.2.2.2.2.2.2.2.2.2.2.1
  refine r_isWorld ha (by rw [e]; decide) ?_
  rw [e, if_neg (by omega)]
  exact ⟨zRd rfl, fun _ => h _, fun hc => absurd rfl hc⟩
theorem p1_warned {E : zE} {M : zM} {Q : Int → zM → Prop} {a : Int} (ha : zR a) (hF : rF M) (h : ∀ M', Q (-1) M') : zP E mX12_warned [.inr (.inr 102), .inl a] M Q := by
  refine vcX12_warned _ ?_
  rintro M1 rfl
  have e := (rF_thrown hF).1.2.2.2.2.2.2.2.2.2.2.2.1
  refine r_isPlace ha (by rw [e]; decide) ?_
  rw [e, if_neg (by omega)]
  exact ⟨zRd rfl, fun _ => h _, fun hc => absurd rfl hc⟩
theorem p1_reading {E : zE} {M : zM} {Q : Int → zM → Prop} {a b c : Int} (ha : zR a) (hF : rF M) (h : ∀ M', Q (-20000) M') : zP E mX12_reading [.inr (.inr 102), .inl a, .inl b, .inl c] M Q := by
  refine vcX12_reading _ _ _ ?_
  rintro M1 rfl
  have e := (rF_thrown hF).1.2.2.1
  refine r_isPost ha (by rw [e]; decide) ?_
  rw [e, if_neg (by omega)]
  exact ⟨zRd rfl, fun _ => h _, fun hc => absurd rfl hc⟩
theorem p1_cworld {E : zE} {M : zM} {Q : Int → zM → Prop} {a : Int} (ha : zR a) (hF : cF M) (h : Q 0 M) : zP E mX11_isWorld [.inr (.inr 0), .inl a] M Q := by
  have e := hF.2.1.2.2.2.2.2
  refine c_isWorld ha (by rw [e]; decide) ?_
  rw [e, if_neg (by omega)]
  exact h
set_option maxHeartbeats 4000000 in
theorem p1_pairs {E : zE} : zPairs E nM0 (fun _ => True) := by
  have cf := cF_0
  have fx := cf.1
  have rs := rS_refl nM0
  have n1 : nM0 0 0 = 0 := cf.2.1.1
  have n2 : nM0 0 6 = 0 := cf.2.1.2.2.2.1
  have n3 : nM0 0 11 = 0 := cf.2.1.2.2.2.2.2
  have n4 : nM0 2 1 = 0 := cf.2.2.1
  have n5 : nM0 20 1 = 0 := cf.2.2.2.2.1.1
  have n6 : nM0 20 6 = 0 := cf.2.2.2.2.1.2
  have n7 : nM0 28 1 = 16 := cf.2.2.2.2.2.1.2.1
  have n8 : nM0 28 5 = 0 := cf.2.2.2.2.2.1.2.2.1
  have n9 : nM0 28 7 = 0 := cf.2.2.2.2.2.1.2.2.2
  have n10 : nM0 44 6 = 0 := cf.2.2.2.2.2.2.1.1
  have n11 : nM0 44 13 = 0 := cf.2.2.2.2.2.2.1.2
  have c0 : 0 ≤ nM0 28 1 ∧ nM0 28 1 ≤ 64 := by rw [n7]; decide
  have ar := cf.2.2.2.2.2.2.2.2.1
  have zr0 : zR (nM0 0 6) := by rw [n2]; exact zRd rfl
  have rd : ∀ {r r2 : Int}, r = r2 → zR r → ((zR r ∧ zR r2) ∧ r = r2 ∧ True) := fun h1 h2 => ⟨⟨h2, h1 ▸ h2⟩, h1, trivial⟩
  have wt : ∀ {M : zM}, rF M → zR (M 102 51 * M 102 52) ∧ M 102 51 * M 102 52 = 16 := fun h => ⟨by rw [p1_wt h]; exact zRd rfl, p1_wt h⟩
  have wb : ∀ {M : zM}, rF M → ∀ i, (M 130 i = 0 ∨ M 130 i = 1) ∧ (M 131 i = 0 ∨ M 131 i = 1) := fun h i => ⟨Or.inl (h.2.2 i).1, Or.inl (h.2.2 i).2.1⟩
  have wh : ∀ {M : zM}, rF M → ∀ i, 0 ≤ M 129 i ∧ M 129 i ≤ 99 := fun h i => by rw [(h.2.2 i).2.2.1]; decide
  refine ⟨?_, ?_, ?_, ?_, ?_, ?_, ?_, ?_, ?_, ?_, ?_, ?_, ?_, ?_, ?_, ?_, ?_, ?_, ?_, ?_, ?_, ?_, ?_, ?_, ?_, ?_, ?_, ?_, ?_⟩
  · -- feed
    intro a b c d e _ _ _ _ _
    refine vcX11_feed _ _ _ _ _ ?_
    refine vcX9_hasSpace _ ?_
    rw [n4]
    refine ⟨zRd rfl, fun hc => by omega, fun _ => ⟨zRd rfl, fun _ => ?_, fun hc => absurd hc (by decide)⟩⟩
    refine c_append (by omega) (fun M1 u1 v1 _ => ?_)
    have s1 : M1 2 1 = 4 := by rw [v1, if_pos rfl, n4]; rfl
    refine c_append (by omega) (fun M2 u2 v2 _ => ?_)
    have s2 : M2 2 1 = 8 := by rw [v2, if_pos rfl, s1]; rfl
    refine c_append (by omega) (fun M3 u3 v3 _ => ?_)
    have s3 : M3 2 1 = 12 := by rw [v3, if_pos rfl, s2]; rfl
    refine c_append (by omega) (fun M4 u4 v4 _ => ?_)
    have s4 : M4 2 1 = 16 := by rw [v4, if_pos rfl, s3]; rfl
    refine c_append (by omega) (fun M5 u5 v5 _ => ?_)
    have s5 : M5 2 1 = 20 := by rw [v5, if_pos rfl, s4]; rfl
    have hs : rS nM0 M5 := fun x hx _ => by
      rw [u5 x (by omega) (by omega), u4 x (by omega) (by omega), u3 x (by omega) (by omega), u2 x (by omega) (by omega), u1 x (by omega) (by omega)]
    have hF := rF_S hs
    have t0 := hF.1.1
    refine r_feed (by rw [t0]; decide) ?_
    rw [t0, s5, if_pos (by decide)]
    intro M6 _ _
    exact rd (by decide) (zRd rfl)
  · intro a ha
    refine g_rules ha cf (fun M1 h1 => ?_)
    refine f_rules ha (rF_S h1) (fun M2 => rd rfl (by grind [zR]))
  · intro a ha
    refine c_fault ha ?_
    refine r_fault ha ?_
    have hF := rF_S rs
    rw [cf.2.2.2.2.2.2.2.1.1, cf.2.2.2.2.2.2.2.1.2, hF.1.2.2.2.2.1, hF.1.2.2.2.2.2.1]
    exact rd rfl (by grind [zR])
  · intro a ha
    refine c_hours ha (by rw [n1]; decide) ?_
    rw [n1]
    have key : ∀ M1, rS nM0 M1 → ∀ r : Int, r = (if 0 ≤ a ∧ 0 + a ≤ 99 then 0 + a else -1) → zP E mX12_hours [.inr (.inr 102), .inl a] M1 (fun r2 M2 => (zR r ∧ zR r2) ∧ r = r2 ∧ True) := by
      intro M1 h1 r hr
      have t := (rF_S h1).1.2.1
      refine r_hours ha (by rw [t]; decide) ?_
      rw [t]
      split <;> rename_i hh
      · rw [if_pos hh] at hr
        exact rd hr (by grind [zR])
      · rw [if_neg hh] at hr
        exact rd hr (by grind [zR])
    split <;> rename_i hh
    · exact key _ (rS_zup (by decide) rs) _ (by rw [if_pos hh])
    · exact key _ rs _ (by rw [if_neg hh])
  · intro a ha
    refine c_post ha fx zr0 (by rw [n5]; decide) ?_
    rw [n5]
    have key : ∀ M1, rS nM0 M1 → ∀ r : Int, r = (if 0 ≤ a ∧ a ≤ 3 then 0 else -1) → zP E mX12_post [.inr (.inr 102), .inl a] M1 (fun r2 M2 => (zR r ∧ zR r2) ∧ r = r2 ∧ True) := by
      intro M1 h1 r hr
      have t := (rF_S h1).1.2.2.1
      refine r_post ha (by rw [t]; decide) ?_
      rw [t]
      split <;> rename_i hh
      · rw [if_pos hh.2] at hr
        exact rd hr (by grind [zR])
      · rw [if_neg (by grind)] at hr
        exact rd hr (by grind [zR])
    split <;> rename_i hh
    · exact key _ (rS_cAl (rS_zup (by decide) (rS_zup (by decide) rs))) _ (by rw [if_pos hh.2])
    · exact key _ rs _ (by rw [if_neg (by grind)])
  · intro a b c d ha hb hc hd
    refine c_read ha hb hc hd fx zr0 (by rw [n1]; decide) (by rw [n5]; decide) (by rw [n6]; decide) ?_
    rw [n5, if_neg (by omega)]
    have hF := rF_S rs
    refine r_read ha hb hc hd (by rw [hF.1.2.1]; decide) (by rw [hF.1.2.2.1]; decide) (by rw [hF.1.2.2.2.1]; decide) ?_
    rw [hF.1.2.2.1, if_neg (by omega)]
    exact rd rfl (zRd rfl)
  · intro a b c ha hb hc
    refine vcX11_reading _ _ _ ?_
    refine c_hasPost ha (by rw [n5]; decide) ?_
    rw [n5, if_neg (by omega)]
    refine ⟨zRd rfl, fun _ => ?_, fun hc => absurd rfl hc⟩
    exact p1_reading ha (rF_S rs) (fun M' => rd rfl (zRd rfl))
  · intro a b ha hb
    refine g_raw ha hb cf ?_
    refine f_raw ha hb (rF_S rs) (fun M' => rd rfl (by grind [zR]))
  · intro a b c ha hb hc
    refine g_tries ha cf ?_
    exact f_tries ha (rF_S rs) (fun M' => ⟨⟨⟨by decide, by decide⟩, ⟨by decide, by decide⟩⟩, rfl, trivial⟩)
  · intro a ha
    refine g_level ha cf (fun M1 h1 => ?_)
    exact f_level ha (rF_S h1) (fun M' => rd rfl (by grind [zR]))
  · intro a b ha hb
    refine c_land ha hb fx ?_
    have key : ∀ M1, ∀ r : Int, r = (if (2 ≤ a ∧ a ≤ 8) ∧ (2 ≤ b ∧ b ≤ 8) then 1 else 0) → zP E mX12_land [.inr (.inr 102), .inl a, .inl b] M1 (fun r2 M2 => (zR r ∧ zR r2) ∧ r = r2 ∧ True) := by
      intro M1 r hr
      refine r_land ha hb ?_
      split <;> rename_i hh
      · rw [if_pos hh] at hr
        intros
        exact rd hr (by grind [zR])
      · rw [if_neg hh] at hr
        exact rd hr (by grind [zR])
    split <;> rename_i hh
    · exact key _ _ (by rw [if_pos hh])
    · exact key _ _ (by rw [if_neg hh])
  · intro a b c ha hb hc
    refine c_ground ha hb hc fx c0 (fun i => by rw [(ar i).2.2.1]; exact zRd rfl) ?_
    rw [n7, (ar a.toNat).2.2.1]
    have key : ∀ M1, rS nM0 M1 → ∀ r : Int, r = (if (0 ≤ a ∧ a < 16) ∧ (0 ≤ b ∧ b ≤ 999) ∧ (0 ≤ c ∧ c ≤ 99) then 1 else 0) → zP E mX12_ground [.inr (.inr 102), .inl a, .inl b, .inl c] M1 (fun r2 M2 => (zR r ∧ zR r2) ∧ r = r2 ∧ True) := by
      intro M1 h1 r hr
      have hF := rF_S h1
      have w := wt hF
      refine r_ground ha hb hc w.1 (by rw [w.2]; decide) (wb hF) ?_
      rw [w.2, (hF.2.2 a.toNat).1, (hF.2.2 a.toNat).2.1]
      split <;> rename_i hh
      · rw [if_pos ⟨hh.1, hh.2.1, hh.2.2.1⟩] at hr
        exact rd hr (by grind [zR])
      · rw [if_neg (by grind)] at hr
        exact rd hr (by grind [zR])
    split <;> rename_i hh
    · exact key _ (rS_cLv (rS_zup (by decide) (rS_zup (by decide) rs))) _ (by rw [if_pos ⟨hh.1, hh.2.1, hh.2.2.1⟩])
    · exact key _ rs _ (by rw [if_neg (by grind)])
  · intro a b c ha hb hc
    have key : ∀ M1, rS nM0 M1 → ∀ r : Int, r = (if (0 ≤ a ∧ a < 16) ∧ c = 1 then 1 else 0) → zP E mX12_work [.inr (.inr 102), .inl a, .inl b, .inl c] M1 (fun r2 M2 => (zR r ∧ zR r2) ∧ r = r2 ∧ True) := by
      intro M1 h1 r hr
      have hF := rF_S h1
      have w := wt hF
      refine r_work ha hb hc w.1 (by rw [w.2]; decide) (wb hF) (wh hF) (by rw [hF.1.2.2.2.2.2.2.2.2.2.1]; decide) ?_
      rw [w.2, (hF.2.2 a.toNat).1, (hF.2.2 a.toNat).2.1, (hF.2.2 a.toNat).2.2.1, hF.1.2.2.2.2.2.2.2.2.2.1]
      rcases hc with rfl | rfl
      · simp at hr ⊢
        exact ⟨⟨by rw [hr]; exact zRd rfl, zRd rfl⟩, hr⟩
      · simp at hr ⊢
        split <;> rename_i hh
        · rw [if_pos hh] at hr
          exact ⟨⟨by rw [hr]; exact zRd rfl, zRd rfl⟩, hr⟩
        · rw [if_neg hh] at hr
          exact ⟨⟨by rw [hr]; exact zRd rfl, zRd rfl⟩, hr⟩
    refine c_work ha hb hc fx c0 (fun i => by rw [(ar i).2.2.1]; decide) (fun i => by rw [(ar i).2.1]; exact zRd rfl) (by rw [n8]; exact zRd rfl) ⟨fun hh => ?_, fun hh => ?_⟩
    · refine key _ (rS_cLv (rS_zup (by decide) (rS_zup (by decide) rs))) _ ?_
      rw [n7, (ar a.toNat).2.2.1] at hh
      rcases hc with rfl | rfl
      · simp [whas] at hh
      · rw [if_pos ⟨hh.1, rfl⟩]
    · refine key _ rs _ ?_
      rw [n7, (ar a.toNat).2.2.1, (ar a.toNat).2.1, n8] at hh
      rcases hc with rfl | rfl
      · simp
      · rw [if_neg]
        intro k
        refine hh ⟨k.1, ?_⟩
        rcases hb with rfl | rfl <;> simp [whas]
  · intro a b c d e ha hb hc hd he
    refine c_world ha hb hc hd he fx c0 (by rw [n3]; decide) ?_
    have key : ∀ M1, rS nM0 M1 → ∀ r : Int, r = (if (0 ≤ a ∧ a ≤ 99) ∧ (0 ≤ b ∧ b < 16) ∧ (1 ≤ c ∧ c ≤ 99) ∧ (1 ≤ d ∧ d ≤ 12) ∧ (1 ≤ e ∧ e ≤ 99) then 0 else -1) → zP E mX12_world [.inr (.inr 102), .inl a, .inl b, .inl c, .inl d, .inl e] M1 (fun r2 M2 => (zR r ∧ zR r2) ∧ r = r2 ∧ True) := by
      intro M1 h1 r hr
      have hF := rF_S h1
      have w := wt hF
      have t := hF.1.2.2.2.2.2.2.2.2.2.2.1
      refine r_world ha hb hc hd he w.1 (by rw [t]; decide) ?_
      rw [w.2, t]
      split <;> rename_i hh
      · rw [if_pos hh.2] at hr
        exact rd hr (by grind [zR])
      · rw [if_neg (by grind)] at hr
        exact rd hr (by grind [zR])
    rw [n3, n7]
    split <;> rename_i hh
    · intro w hw hid
      refine key _ (rS_cLv (rS_zup (by decide) (rS_zup (by omega) (rS_zup (by omega) (rS_zup (by omega) (rS_zup (by omega) (rS_zup (by omega) rs))))))) _ (by rw [if_pos hh.2])
    · exact key _ rs _ (by rw [if_neg (by grind)])
  · intro a b c d ha hb hc hd
    refine vcX11_lava _ _ _ _ ?_
    refine p1_cworld ha cf ⟨zRd rfl, fun _ => ?_, fun hc => absurd rfl hc⟩
    exact p1_lava ha (rF_S rs) (fun M' => rd rfl (zRd rfl))
  · intro a b ha hb
    refine vcX11_reached _ _ ?_
    refine p1_cworld ha cf ⟨zRd rfl, fun _ => ?_, fun hc => absurd rfl hc⟩
    exact p1_reached ha (rF_S rs) (fun M' => rd rfl (zRd rfl))
  · intro a b c d ha hb hc hd
    refine c_town ha hb hc hd fx c0 (by rw [n10]; decide) ?_
    have key : ∀ M1, rS nM0 M1 → ∀ r : Int, r = (if (0 ≤ a ∧ a < 16) ∧ (1 ≤ b ∧ b ≤ 999) ∧ (1 ≤ c ∧ c ≤ 4) ∧ (0 ≤ d ∧ d ≤ 5) then 0 else -1) → zP E mX12_town [.inr (.inr 102), .inl a, .inl b, .inl c, .inl d] M1 (fun r2 M2 => (zR r ∧ zR r2) ∧ r = r2 ∧ True) := by
      intro M1 h1 r hr
      have hF := rF_S h1
      have w := wt hF
      have t := hF.1.2.2.2.2.2.2.2.2.2.2.2.1
      refine r_town ha hb hc hd w.1 (by rw [t]; decide) ?_
      rw [w.2, t]
      split <;> rename_i hh
      · rw [if_pos hh.2] at hr
        exact rd hr (by grind [zR])
      · rw [if_neg (by grind)] at hr
        exact rd hr (by grind [zR])
    rw [n7, n10]
    split <;> rename_i hh
    · rw [if_pos (by decide)]
      exact key _ (rS_zup (by decide) (rS_zup (by decide) (rS_zup (by decide) (rS_zup (by decide) (rS_zup (by decide) (rS_zup (by decide) (rS_cEs rs))))))) _ (by rw [if_pos hh])
    · exact key _ rs _ (by rw [if_neg hh])
  · intro a ha
    refine c_shelter ha fx (by rw [n10]; decide) ?_
    have key : ∀ M1, rS nM0 M1 → ∀ r : Int, r = (if (0 ≤ a ∧ a ≤ 9999) then 0 else -1) → zP E mX12_shelter [.inr (.inr 102), .inl a] M1 (fun r2 M2 => (zR r ∧ zR r2) ∧ r = r2 ∧ True) := by
      intro M1 h1 r hr
      have hF := rF_S h1
      have t := hF.1.2.2.2.2.2.2.2.2.2.2.2.1
      refine r_shelter ha (by rw [t]; decide) ?_
      rw [t]
      split <;> rename_i hh
      · rw [if_pos hh.2] at hr
        exact rd hr (by grind [zR])
      · rw [if_neg (by grind)] at hr
        exact rd hr (by grind [zR])
    rw [n10]
    split <;> rename_i hh
    · rw [if_pos (by decide)]
      exact key _ (rS_zup (by decide) (rS_zup (by decide) (rS_zup (by decide) (rS_zup (by decide) (rS_zup (by decide) (rS_zup (by decide) (rS_zup (by decide) (rS_cEs rs)))))))) _ (by rw [if_pos hh])
    · exact key _ rs _ (by rw [if_neg hh])
  · intro a b c d e f ha hb hc hd he hf
    refine c_road ha hb hc hd he hf fx c0 (by rw [n10]; decide) (by rw [n11]; decide) ?_
    rw [n10, if_neg (by omega)]
    have hF := rF_S rs
    have w := wt hF
    have t := hF.1.2.2.2.2.2.2.2.2.2.2.2.1
    have t2 := hF.1.2.2.2.2.2.2.2.2.2.2.2.2.1
    refine r_road ha hb hc hd he hf w.1 (by rw [t]; decide) (by rw [t2]; decide) ?_
    rw [t, if_neg (by omega)]
    exact rd rfl (zRd rfl)
  · intro a ha
    refine vcX11_warned _ ?_
    refine c_isTown ha (by rw [n10]; decide) (fun i => by rw [(ar i).2.2.2.2]; exact zRd rfl) ?_
    rw [n10, if_neg (by omega)]
    refine ⟨zRd rfl, fun hc => absurd rfl hc, fun _ => ?_⟩
    exact p1_warned ha (rF_S rs) (fun M' => rd rfl (zRd rfl))
  · intro a b ha hb
    refine vcX11_ledOut _ _ ?_
    refine p1_cworld ha cf ⟨zRd rfl, fun _ => ?_, fun hc => absurd rfl hc⟩
    exact p1_ledOut ha (rF_S rs) (fun M' => rd rfl (zRd rfl))
  · intro a b c ha hb hc
    refine vcX11_cut _ _ _ ?_
    refine p1_cworld ha cf ⟨zRd rfl, fun _ => ?_, fun hc => absurd rfl hc⟩
    exact p1_cut ha (rF_S rs) (fun M' => rd rfl (zRd rfl))
  · intro a ha
    refine g_cost ha cf (fun M1 h1 => ?_)
    exact f_cost ha (rF_S h1) (fun M' => rd rfl (by grind [zR]))
  · intro a ha
    have key : ∀ M1, rS nM0 M1 → ∀ r : Int, r = (if (0 ≤ a ∧ a < 16) then 0 else -1) → zP E mX12_candidate [.inr (.inr 102), .inl a] M1 (fun r2 M2 => (zR r ∧ zR r2) ∧ r = r2 ∧ True) := by
      intro M1 h1 r hr
      have hF := rF_S h1
      have w := wt hF
      have t := hF.1.2.2.2.2.2.2.2.2.2.2.2.2.2.1
      refine r_candidate ha w.1 (by rw [t]; decide) (fun i => by rw [(hF.2.2 i).2.2.2.2]; exact zRd rfl) ?_
      rw [w.2, t]
      split <;> rename_i hh
      · rw [if_pos hh.2.1] at hr
        exact rd hr (by grind [zR])
      · rw [if_neg] at hr
        · exact rd hr (by grind [zR])
        · intro k
          exact hh ⟨by decide, k, fun i hi => by omega⟩
    refine c_candidate ha fx c0 (by rw [n9]; decide) (fun i => by rw [(ar i).2.2.2.1]; exact zRd rfl) ⟨fun hh => ?_, fun hh => ?_⟩
    · rw [n7] at hh
      rw [n9]
      exact key _ (rS_cPl (rS_zup (by decide) (rS_zup (by decide) rs))) _ (by rw [if_pos hh.1])
    · rw [n7, n9] at hh
      refine key _ rs _ ?_
      rw [if_neg]
      intro k
      exact hh ⟨k, by decide, fun i hi => by omega⟩
  · intro a b ha hb
    refine g_best ha hb cf (fun M1 h1 => ?_)
    exact f_best ha hb (rF_S h1) (fun M' => rd rfl (by grind [zR]))
  · intro a b c ha hb hc
    refine c_wind ha hb hc ?_
    have key : ∀ M1, ∀ r : Int, r = (if (0 ≤ a ∧ a ≤ 123) ∧ (0 ≤ b ∧ b ≤ 7) ∧ (0 ≤ c ∧ c ≤ 7) then 1 else 0) → zP E mX12_wind [.inr (.inr 102), .inl a, .inl b, .inl c] M1 (fun r2 M2 => (zR r ∧ zR r2) ∧ r = r2 ∧ True) := by
      intro M1 r hr
      refine r_wind ha hb hc ?_
      split <;> rename_i hh
      · rw [if_pos hh] at hr
        exact rd hr (by grind [zR])
      · rw [if_neg hh] at hr
        exact rd hr (by grind [zR])
    split <;> rename_i hh
    · exact key _ _ (by rw [if_pos hh])
    · exact key _ _ (by rw [if_neg hh])
  · intro a b ha hb
    refine vcX11_ash _ _ (fun _ _ _ _ _ _ _ _ => False) ?_ (fun _ _ _ _ _ _ _ _ h => h.elim)
    refine p1_cworld ha cf ⟨zRd rfl, fun _ => ?_, fun hc => absurd rfl hc⟩
    exact p1_ash ha (rF_S rs) (fun M' => rd rfl (zRd rfl))
  · intro a b ha hb
    have key : ∀ M1, rS nM0 M1 → ∀ r : Int, r = (if 0 ≤ a ∧ a < 16 then (if b = 0 ∨ b = 1 ∨ b = 2 then 0 else 2) else 1) → (r = 0 → M1 165 0 = 0) → zP E mX12_look [.inr (.inr 102), .inl a, .inl b] M1 (fun r2 M2 => zP E mX12_thrown [.inr (.inr 102)] M2 (fun r3 M3 => (zR r3 ∧ zR r) ∧ r3 = r ∧ (r = 0 → zR r2 ∧ (zL (M3 165 0) ∧ zL r2) ∧ M3 165 0 = r2) ∧ True)) := by
      intro M1 h1 r hr ho
      have hF := rF_S h1
      have w := wt hF
      refine r_look ha hb w.1 (by rw [w.2]; decide) (wb hF) ?_
      rw [w.2, (hF.2.2 a.toNat).1, (hF.2.2 a.toNat).2.1, (hF.2.2 a.toNat).2.2.1, (hF.2.2 a.toNat).2.2.2.1]
      have z0 : zL 0 := by unfold zL; decide
      by_cases g : 0 ≤ a ∧ a < 16
      · rw [if_neg (by simpa using g)]
        rw [if_pos g] at hr
        by_cases g2 : b = 0 ∨ b = 1 ∨ b = 2
        · rw [if_pos g2] at hr
          subst hr
          have ho := ho rfl
          have fin : zP E mX12_thrown [.inr (.inr 102)] (zup M1 102 2 0) (fun r3 M3 => (zR r3 ∧ zR 0) ∧ r3 = 0 ∧ ((0 : Int) = 0 → zR 0 ∧ (zL (M3 165 0) ∧ zL 0) ∧ M3 165 0 = 0) ∧ True) := by
            refine r_thrown ?_
            simp [zup_r, ho]
            exact ⟨zRd rfl, z0⟩
          rcases g2 with rfl | rfl | rfl
          · simpa using fin
          · simpa using fin
          · simpa using fin
        · rw [if_neg g2] at hr
          subst hr
          rw [if_neg (by omega), if_neg (by omega), if_neg (by omega)]
          refine r_thrown ?_
          simp [zup_r]
          exact zRd rfl
      · rw [if_pos (by simpa using g)]
        rw [if_neg g] at hr
        subst hr
        refine r_thrown ?_
        simp [zup_r]
        exact zRd rfl
    refine look_of (vcL_look _ _ ?_)
    refine vcX_look _ _ ?_
    refine c_lhas ha c0 ?_
    rw [n7]
    by_cases g : 0 ≤ a ∧ a < 16
    · rw [if_pos g]
      refine ⟨zRd rfl, fun _ => ⟨hb, ?_, ?_, ?_, ?_⟩, fun hc => absurd hc (by decide)⟩
      · rintro rfl
        refine ⟨by omega, ?_⟩
        rw [(ar a.toNat).1]
        refine ⟨zRd rfl, ?_⟩
        rintro M2 rfl
        exact key _ (rS_out rs) _ (by rw [if_pos g, if_pos (by omega)]) (fun _ => by simp [zup_r])
      · rintro rfl
        refine ⟨by omega, ?_⟩
        rw [(ar a.toNat).2.1]
        refine ⟨zRd rfl, ?_⟩
        rintro M2 rfl
        exact key _ (rS_out rs) _ (by rw [if_pos g, if_pos (by omega)]) (fun _ => by simp [zup_r])
      · rintro rfl
        refine ⟨by omega, ?_⟩
        rw [(ar a.toNat).2.2.1]
        refine ⟨zRd rfl, ?_⟩
        rintro M2 rfl
        exact key _ (rS_out rs) _ (by rw [if_pos g, if_pos (by omega)]) (fun _ => by simp [zup_r])
      · intro g2
        exact Or.inr ⟨rfl, key _ rs _ (by rw [if_pos g, if_neg (by omega)]) (fun h => absurd h (by decide))⟩
    · rw [if_neg g]
      refine ⟨zRd rfl, fun hc => absurd rfl hc, fun _ => ?_⟩
      exact Or.inl ⟨rfl, key _ rs _ (by rw [if_neg g]) (fun h => absurd h (by decide))⟩
  · intro a ha
    refine c_count ha (by rw [cf.2.1.2.1]; exact Or.inl rfl) ?_
    refine r_count ha ?_
    have hF := rF_S rs
    have m1 : nM0 (Int.toNat 6) 8 = 0 := cf.2.2.2.1.1
    have m2 : nM0 (Int.toNat 6) 10 = 0 := cf.2.2.2.1.2.1
    have m3 : nM0 (Int.toNat 6) 9 = 0 := cf.2.2.2.1.2.2
    rw [cf.2.1.2.1, m1, m2, m3, n1, n5, n6, n3, n10, n11, n9, n8]
    rw [hF.1.2.1, hF.1.2.2.1, hF.1.2.2.2.1, hF.1.2.2.2.2.2.2.1, hF.1.2.2.2.2.2.2.2.1, hF.1.2.2.2.2.2.2.2.2.1, hF.1.2.2.2.2.2.2.2.2.2.2.1, hF.1.2.2.2.2.2.2.2.2.2.2.2.1, hF.1.2.2.2.2.2.2.2.2.2.2.2.2.1, hF.1.2.2.2.2.2.2.2.2.2.2.2.2.2.1, hF.1.2.2.2.2.2.2.2.2.2.1]
    exact rd rfl (by grind (splits := 20) [zR])
theorem p1_law {E : zE} (hL : E.2.2.2.2.2.1 ≤ 7) : zA E ([], fun _ _ => none, true) (0, 0) mL_law 0 [(0, .inr (.inr (-100)))] [] (fun _ _ => 0) (fun r _ _ => r = 1) := by
  refine law_pairs (by omega) (fun k M => k = 0 → M = nM0) (fun _ => rfl) (fun k M hP hk => ?_) (fun k M _ h => by omega)
  have h0 : k = 0 := by omega
  rw [hP h0]
  have := @p1_pairs E
  subst h0
  simpa using this
