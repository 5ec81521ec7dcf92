/-! the claim out of pairs of calls -/
def zPP (E : zE) (mC mR : zD) (args : List zV) (M : zM) (P' : zM → Prop) : Prop := zP E mC (.inr (.inr 0) :: args) M (fun r M1 => zP E mR (.inr (.inr 102) :: args) M1 (fun r2 M2 => (zR r ∧ zR r2) ∧ r = r2 ∧ P' M2))
def zPL (E : zE) (mC mR : zD) (args : List zV) (M : zM) (P' : zM → Prop) : Prop := zP E mC (.inr (.inr 0) :: args) M (fun r M1 => zP E mR (.inr (.inr 102) :: args) M1 (fun r2 M2 => (zL r ∧ zL r2) ∧ r = r2 ∧ P' M2))
def zPK (E : zE) (a b : Int) (M : zM) (P' : zM → Prop) : Prop := zLook E a b M (fun r M1 => zP E mX12_look [.inr (.inr 102), .inl a, .inl b] M1 (fun r2 M2 => zP E mX12_thrown [.inr (.inr 102)] M2 (fun r3 M3 => (zR r3 ∧ zR r) ∧ r3 = r ∧ (r = 0 → zR r2 ∧ (zL (M3 165 0) ∧ zL r2) ∧ M3 165 0 = r2) ∧ P' M3)))
def zPairs (E : zE) (M : zM) (P' : zM → Prop) : Prop :=
  (∀ a b c d e : Int, zR a → zR b → zR c → zR d → zR e → zPP E mX11_feed mX12_feed [.inl a, .inl b, .inl c, .inl d, .inl e] M P') ∧
  (∀ a : Int, zR a → zPP E mX11_rules mX12_rules [.inl a] M P') ∧
  (∀ a : Int, zR a → zPP E mX11_fault mX12_fault [.inl a] M P') ∧
  (∀ a : Int, zR a → zPP E mX11_hours mX12_hours [.inl a] M P') ∧
  (∀ a : Int, zR a → zPP E mX11_post mX12_post [.inl a] M P') ∧
  (∀ a b c d : Int, zR a → zR b → zR c → (d = 0 ∨ d = 1) → zPP E mX11_read mX12_read [.inl a, .inl b, .inl c, .inl d] M P') ∧
  (∀ a b c : Int, zR a → zR b → zR c → zPP E mX11_reading mX12_reading [.inl a, .inl b, .inl c] M P') ∧
  (∀ a b : Int, zR a → zR b → zPP E mX11_raw mX12_raw [.inl a, .inl b] M P') ∧
  (∀ a b c : Int, zR a → zR b → zR c → zPL E mX11_tries mX12_tries [.inl a, .inl b, .inl c] M P') ∧
  (∀ a : Int, zR a → zPP E mX11_level mX12_level [.inl a] M P') ∧
  (∀ a b : Int, zR a → zR b → zPP E mX11_land mX12_land [.inl a, .inl b] M P') ∧
  (∀ a b c : Int, zR a → zR b → zR c → zPP E mX11_ground mX12_ground [.inl a, .inl b, .inl c] M P') ∧
  (∀ a b c : Int, zR a → (b = 0 ∨ b = 1) → (c = 0 ∨ c = 1) → zPP E mX11_work mX12_work [.inl a, .inl b, .inl c] M P') ∧
  (∀ a b c d e : Int, zR a → zR b → zR c → zR d → zR e → zPP E mX11_world mX12_world [.inl a, .inl b, .inl c, .inl d, .inl e] M P') ∧
  (∀ a b c d : Int, zR a → zR b → zR c → zR d → zPP E mX11_lava mX12_lava [.inl a, .inl b, .inl c, .inl d] M P') ∧
  (∀ a b : Int, zR a → zR b → zPP E mX11_reached mX12_reached [.inl a, .inl b] M P') ∧
  (∀ a b c d : Int, zR a → zR b → zR c → zR d → zPP E mX11_town mX12_town [.inl a, .inl b, .inl c, .inl d] M P') ∧
  (∀ a : Int, zR a → zPP E mX11_shelter mX12_shelter [.inl a] M P') ∧
  (∀ a b c d e f : Int, zR a → zR b → zR c → zR d → zR e → zR f → zPP E mX11_road mX12_road [.inl a, .inl b, .inl c, .inl d, .inl e, .inl f] M P') ∧
  (∀ a : Int, zR a → zPP E mX11_warned mX12_warned [.inl a] M P') ∧
  (∀ a b : Int, zR a → zR b → zPP E mX11_ledOut mX12_ledOut [.inl a, .inl b] M P') ∧
  (∀ a b c : Int, zR a → zR b → zR c → zPP E mX11_cut mX12_cut [.inl a, .inl b, .inl c] M P') ∧
  (∀ a : Int, zR a → zPP E mX11_cost mX12_cost [.inl a] M P') ∧
  (∀ a : Int, zR a → zPP E mX11_candidate mX12_candidate [.inl a] M P') ∧
  (∀ a b : Int, zR a → zR b → zPP E mX11_best mX12_best [.inl a, .inl b] M P') ∧
  (∀ a b c : Int, zR a → zR b → zR c → zPP E mX11_wind mX12_wind [.inl a, .inl b, .inl c] M P') ∧
  (∀ a b : Int, zR a → zR b → zPP E mX11_ash mX12_ash [.inl a, .inl b] M P') ∧
  (∀ a b : Int, zR a → zR b → zPK E a b M P') ∧
  (∀ a : Int, zR a → zPP E mX11_count mX12_count [.inl a] M P')
set_option maxHeartbeats 8000000 in
set_option maxRecDepth 20000 in
theorem law_pairs {E : zE} (hL : E.2.2.2.2.2.1 ≤ 3584) (P : Nat → zM → Prop) (h0 : P 0 nM0) (hp : ∀ (k : Nat) (M : zM), P k M → 7 * (k : Int) ≤ (E.2.2.2.2.2.1 : Int) - 7 → zPairs E M (P (k + 1))) (hskip : ∀ (k : Nat) (M : zM), P k M → P (k + 1) M) :
    zA E ([], fun _ _ => none, true) (0, 0) mL_law 0 [(0, .inr (.inr (-100)))] [] (fun _ _ => 0) (fun r _ _ => r = 1) := by
  refine open_law ?_
  refine vcL_law (Q := fun r _ => r = 1) (by omega) (fun n c s l4 M => ∃ k : Nat, l4 = 7 * (k : Int) ∧ k ≤ 513 ∧ n = 600 - k ∧ c ≤ 166 + 2 * k ∧ s ≤ 31568 + 40 * k ∧ P k M) ?_ 600 166 31568 0 nM0 ⟨0, rfl, by omega, rfl, by omega, by omega, h0⟩
  rintro n c s l4 M ⟨k, rfl, hk, rfl, hc, hs, hP⟩
  have hx : ∀ i : Nat, zR ((E.2.2.2.2.2.2 i).toInt) := fun i => ⟨Int32.le_toInt _, Int32.toInt_lt _⟩
  refine ⟨⟨by omega, by omega⟩, ⟨⟨by unfold zR; omega, by unfold zR; omega⟩, fun _ => rfl, fun hle => ?_⟩⟩
  have hp := hp k M hP hle
  have b0 : 0 ≤ 7 * (k : Int) ∧ 7 * (k : Int) < E.2.2.2.2.2.1 := by omega
  have b1 : 0 ≤ 7 * (k : Int) + 1 ∧ 7 * (k : Int) + 1 < E.2.2.2.2.2.1 := by omega
  have b2 : 0 ≤ 7 * (k : Int) + 2 ∧ 7 * (k : Int) + 2 < E.2.2.2.2.2.1 := by omega
  have b3 : 0 ≤ 7 * (k : Int) + 3 ∧ 7 * (k : Int) + 3 < E.2.2.2.2.2.1 := by omega
  have b4 : 0 ≤ 7 * (k : Int) + 4 ∧ 7 * (k : Int) + 4 < E.2.2.2.2.2.1 := by omega
  have b5 : 0 ≤ 7 * (k : Int) + 5 ∧ 7 * (k : Int) + 5 < E.2.2.2.2.2.1 := by omega
  have b6 : 0 ≤ 7 * (k : Int) + 6 ∧ 7 * (k : Int) + 6 < E.2.2.2.2.2.1 := by omega
  have nx : ∀ {M2 : zM}, P (k + 1) M2 → ∃ n', n' < 600 - k ∧ ∃ k2 : Nat, 7 * (k : Int) + 7 = 7 * (k2 : Int) ∧ k2 ≤ 513 ∧ n' = 600 - k2 ∧ c ≤ 166 + 2 * k2 ∧ s ≤ 31568 + 40 * k2 ∧ P k2 M2 := fun h => ⟨600 - (k + 1), by omega, k + 1, by omega, by omega, rfl, by omega, by omega, h⟩
  have nx2 : ∀ {M2 : zM}, P (k + 1) M2 → ∃ n', n' < 600 - k ∧ ∃ k2 : Nat, 7 * (k : Int) + 7 = 7 * (k2 : Int) ∧ k2 ≤ 513 ∧ n' = 600 - k2 ∧ c + 2 ≤ 166 + 2 * k2 ∧ s + 40 ≤ 31568 + 40 * k2 ∧ P k2 M2 := fun h => ⟨600 - (k + 1), by omega, k + 1, by omega, by omega, rfl, by omega, by omega, h⟩
  have fin : ∀ {r r2 : Int} {M2 : zM}, ((zR r ∧ zR r2) ∧ r = r2 ∧ P (k + 1) M2) → ((zR r ∧ zR r2) ∧ ((r = r2 → ∃ n', n' < 600 - k ∧ ∃ k2 : Nat, 7 * (k : Int) + 7 = 7 * (k2 : Int) ∧ k2 ≤ 513 ∧ n' = 600 - k2 ∧ c ≤ 166 + 2 * k2 ∧ s ≤ 31568 + 40 * k2 ∧ P k2 M2) ∧ (¬ r = r2 → (0 : Int) = 1))) := fun h => ⟨h.1, fun _ => nx h.2.2, fun hc => absurd h.2.1 hc⟩
  have finL : ∀ {r r2 : Int} {M2 : zM}, ((zL r ∧ zL r2) ∧ r = r2 ∧ P (k + 1) M2) → ((zL r ∧ zL r2) ∧ ((r = r2 → ∃ n', n' < 600 - k ∧ ∃ k2 : Nat, 7 * (k : Int) + 7 = 7 * (k2 : Int) ∧ k2 ≤ 513 ∧ n' = 600 - k2 ∧ c ≤ 166 + 2 * k2 ∧ s ≤ 31568 + 40 * k2 ∧ P k2 M2) ∧ (¬ r = r2 → (0 : Int) = 1))) := fun h => ⟨h.1, fun _ => nx h.2.2, fun hc => absurd h.2.1 hc⟩
  refine ⟨b0, ⟨Int32.le_toInt _, Int32.toInt_lt _⟩, fun _ => ⟨600 - (k + 1), by omega, k + 1, by omega, by omega, rfl, by omega, by omega, ?_⟩, ?_, ?_, ?_, ?_, ?_, ?_, ?_, ?_, ?_, ?_, ?_, ?_, ?_, ?_, ?_, ?_, ?_, ?_, ?_, ?_, ?_, ?_, ?_, ?_, ?_, ?_, ?_, ?_, ?_⟩
  · exact hskip k M hP
  · exact fun _ => ⟨b1, b2, b3, b4, b5, zP_Q (hp.1 _ _ _ _ _ (hx _) (hx _) (hx _) (hx _) (hx _)) (fun r M1 h => ⟨b1, b2, b3, b4, b5, zP_Q h (fun r2 M2 h => fin h)⟩)⟩
  · exact fun _ => ⟨b1, zP_Q (hp.2.1 _ (hx _)) (fun r M1 h => ⟨b1, zP_Q h (fun r2 M2 h => fin h)⟩)⟩
  · exact fun _ => ⟨b1, zP_Q (hp.2.2.1 _ (hx _)) (fun r M1 h => ⟨b1, zP_Q h (fun r2 M2 h => fin h)⟩)⟩
  · exact fun _ => ⟨b1, zP_Q (hp.2.2.2.1 _ (hx _)) (fun r M1 h => ⟨b1, zP_Q h (fun r2 M2 h => fin h)⟩)⟩
  · exact fun _ => ⟨b1, zP_Q (hp.2.2.2.2.1 _ (hx _)) (fun r M1 h => ⟨b1, zP_Q h (fun r2 M2 h => fin h)⟩)⟩
  · exact fun _ => ⟨b1, b2, b3, b4, hx _, fun h0 => zP_Q (hp.2.2.2.2.2.1 _ _ _ 0 (hx _) (hx _) (hx _) (Or.inl rfl)) (fun r M1 h => ⟨b1, b2, b3, b4, hx _, fun _ => zP_Q h (fun r2 M2 h => fin h), fun hc => absurd h0 hc⟩), fun h0 => zP_Q (hp.2.2.2.2.2.1 _ _ _ 1 (hx _) (hx _) (hx _) (Or.inr rfl)) (fun r M1 h => ⟨b1, b2, b3, b4, hx _, fun hc => absurd hc h0, fun _ => zP_Q h (fun r2 M2 h => fin h)⟩)⟩
  · exact fun _ => ⟨b1, b2, b3, zP_Q (hp.2.2.2.2.2.2.1 _ _ _ (hx _) (hx _) (hx _)) (fun r M1 h => ⟨b1, b2, b3, zP_Q h (fun r2 M2 h => fin h)⟩)⟩
  · exact fun _ => ⟨b1, b2, zP_Q (hp.2.2.2.2.2.2.2.1 _ _ (hx _) (hx _)) (fun r M1 h => ⟨b1, b2, zP_Q h (fun r2 M2 h => fin h)⟩)⟩
  · exact fun _ => ⟨b1, b2, b3, zP_Q (hp.2.2.2.2.2.2.2.2.1 _ _ _ (hx _) (hx _) (hx _)) (fun r M1 h => ⟨b1, b2, b3, zP_Q h (fun r2 M2 h => finL h)⟩)⟩
  · exact fun _ => ⟨b1, zP_Q (hp.2.2.2.2.2.2.2.2.2.1 _ (hx _)) (fun r M1 h => ⟨b1, zP_Q h (fun r2 M2 h => fin h)⟩)⟩
  · exact fun _ => ⟨b1, b2, zP_Q (hp.2.2.2.2.2.2.2.2.2.2.1 _ _ (hx _) (hx _)) (fun r M1 h => ⟨b1, b2, zP_Q h (fun r2 M2 h => fin h)⟩)⟩
  · exact fun _ => ⟨b1, b2, b3, zP_Q (hp.2.2.2.2.2.2.2.2.2.2.2.1 _ _ _ (hx _) (hx _) (hx _)) (fun r M1 h => ⟨b1, b2, b3, zP_Q h (fun r2 M2 h => fin h)⟩)⟩
  · exact fun _ => ⟨b1, b2, hx _, fun g1 => ⟨b3, hx _, fun g2 => zP_Q (hp.2.2.2.2.2.2.2.2.2.2.2.2.1 _ 0 0 (hx _) (Or.inl rfl) (Or.inl rfl)) (fun r M1 h => ⟨b1, b2, hx _, fun _ => ⟨b3, hx _, fun _ => zP_Q h (fun r2 M2 h => fin h), fun hc => absurd g2 hc⟩, fun hc => absurd g1 hc⟩), fun g2 => zP_Q (hp.2.2.2.2.2.2.2.2.2.2.2.2.1 _ 0 1 (hx _) (Or.inl rfl) (Or.inr rfl)) (fun r M1 h => ⟨b1, b2, hx _, fun _ => ⟨b3, hx _, fun hc => absurd hc g2, fun _ => zP_Q h (fun r2 M2 h => fin h)⟩, fun hc => absurd g1 hc⟩)⟩, fun g1 => ⟨b3, hx _, fun g2 => zP_Q (hp.2.2.2.2.2.2.2.2.2.2.2.2.1 _ 1 0 (hx _) (Or.inr rfl) (Or.inl rfl)) (fun r M1 h => ⟨b1, b2, hx _, fun hc => absurd hc g1, fun _ => ⟨b3, hx _, fun _ => zP_Q h (fun r2 M2 h => fin h), fun hc => absurd g2 hc⟩⟩), fun g2 => zP_Q (hp.2.2.2.2.2.2.2.2.2.2.2.2.1 _ 1 1 (hx _) (Or.inr rfl) (Or.inr rfl)) (fun r M1 h => ⟨b1, b2, hx _, fun hc => absurd hc g1, fun _ => ⟨b3, hx _, fun hc => absurd hc g2, fun _ => zP_Q h (fun r2 M2 h => fin h)⟩⟩)⟩⟩
  · exact fun _ => ⟨b1, b2, b3, b4, b5, zP_Q (hp.2.2.2.2.2.2.2.2.2.2.2.2.2.1 _ _ _ _ _ (hx _) (hx _) (hx _) (hx _) (hx _)) (fun r M1 h => ⟨b1, b2, b3, b4, b5, zP_Q h (fun r2 M2 h => fin h)⟩)⟩
  · exact fun _ => ⟨b1, b2, b3, b4, zP_Q (hp.2.2.2.2.2.2.2.2.2.2.2.2.2.2.1 _ _ _ _ (hx _) (hx _) (hx _) (hx _)) (fun r M1 h => ⟨b1, b2, b3, b4, zP_Q h (fun r2 M2 h => fin h)⟩)⟩
  · exact fun _ => ⟨b1, b2, zP_Q (hp.2.2.2.2.2.2.2.2.2.2.2.2.2.2.2.1 _ _ (hx _) (hx _)) (fun r M1 h => ⟨b1, b2, zP_Q h (fun r2 M2 h => fin h)⟩)⟩
  · exact fun _ => ⟨b1, b2, b3, b4, zP_Q (hp.2.2.2.2.2.2.2.2.2.2.2.2.2.2.2.2.1 _ _ _ _ (hx _) (hx _) (hx _) (hx _)) (fun r M1 h => ⟨b1, b2, b3, b4, zP_Q h (fun r2 M2 h => fin h)⟩)⟩
  · exact fun _ => ⟨b1, zP_Q (hp.2.2.2.2.2.2.2.2.2.2.2.2.2.2.2.2.2.1 _ (hx _)) (fun r M1 h => ⟨b1, zP_Q h (fun r2 M2 h => fin h)⟩)⟩
  · exact fun _ => ⟨b1, b2, b3, b4, b5, b6, zP_Q (hp.2.2.2.2.2.2.2.2.2.2.2.2.2.2.2.2.2.2.1 _ _ _ _ _ _ (hx _) (hx _) (hx _) (hx _) (hx _) (hx _)) (fun r M1 h => ⟨b1, b2, b3, b4, b5, b6, zP_Q h (fun r2 M2 h => fin h)⟩)⟩
  · exact fun _ => ⟨b1, zP_Q (hp.2.2.2.2.2.2.2.2.2.2.2.2.2.2.2.2.2.2.2.1 _ (hx _)) (fun r M1 h => ⟨b1, zP_Q h (fun r2 M2 h => fin h)⟩)⟩
  · exact fun _ => ⟨b1, b2, zP_Q (hp.2.2.2.2.2.2.2.2.2.2.2.2.2.2.2.2.2.2.2.2.1 _ _ (hx _) (hx _)) (fun r M1 h => ⟨b1, b2, zP_Q h (fun r2 M2 h => fin h)⟩)⟩
  · exact fun _ => ⟨b1, b2, b3, zP_Q (hp.2.2.2.2.2.2.2.2.2.2.2.2.2.2.2.2.2.2.2.2.2.1 _ _ _ (hx _) (hx _) (hx _)) (fun r M1 h => ⟨b1, b2, b3, zP_Q h (fun r2 M2 h => fin h)⟩)⟩
  · exact fun _ => ⟨b1, zP_Q (hp.2.2.2.2.2.2.2.2.2.2.2.2.2.2.2.2.2.2.2.2.2.2.1 _ (hx _)) (fun r M1 h => ⟨b1, zP_Q h (fun r2 M2 h => fin h)⟩)⟩
  · exact fun _ => ⟨b1, zP_Q (hp.2.2.2.2.2.2.2.2.2.2.2.2.2.2.2.2.2.2.2.2.2.2.2.1 _ (hx _)) (fun r M1 h => ⟨b1, zP_Q h (fun r2 M2 h => fin h)⟩)⟩
  · exact fun _ => ⟨b1, b2, zP_Q (hp.2.2.2.2.2.2.2.2.2.2.2.2.2.2.2.2.2.2.2.2.2.2.2.2.1 _ _ (hx _) (hx _)) (fun r M1 h => ⟨b1, b2, zP_Q h (fun r2 M2 h => fin h)⟩)⟩
  · exact fun _ => ⟨b1, b2, b3, zP_Q (hp.2.2.2.2.2.2.2.2.2.2.2.2.2.2.2.2.2.2.2.2.2.2.2.2.2.1 _ _ _ (hx _) (hx _) (hx _)) (fun r M1 h => ⟨b1, b2, b3, zP_Q h (fun r2 M2 h => fin h)⟩)⟩
  · exact fun _ => ⟨b1, b2, zP_Q (hp.2.2.2.2.2.2.2.2.2.2.2.2.2.2.2.2.2.2.2.2.2.2.2.2.2.2.1 _ _ (hx _) (hx _)) (fun r M1 h => ⟨b1, b2, zP_Q h (fun r2 M2 h => fin h)⟩)⟩
  · exact fun _ => ⟨b1, b2, fun cc ss st al Q h8 hc hs kk => hp.2.2.2.2.2.2.2.2.2.2.2.2.2.2.2.2.2.2.2.2.2.2.2.2.2.2.2.1 _ _ (hx _) (hx _) cc ss st al Q h8 hc hs (fun r M1 h => kk r M1 ⟨b1, b2, zP_Q h (fun r2 M2 h => zP_Q h (fun r3 M3 h => ⟨h.1, fun _ => ⟨h.1.2, fun _ => nx2 h.2.2.2, fun g => ⟨(h.2.2.1 g).1, (h.2.2.1 g).2.1, fun _ => nx2 h.2.2.2, fun hc => absurd (h.2.2.1 g).2.2 hc⟩⟩, fun hc => absurd h.2.1 hc⟩))⟩)⟩
  · exact fun _ => ⟨b1, zP_Q (hp.2.2.2.2.2.2.2.2.2.2.2.2.2.2.2.2.2.2.2.2.2.2.2.2.2.2.2.2 _ (hx _)) (fun r M1 h => ⟨b1, zP_Q h (fun r2 M2 h => fin h)⟩)⟩
