/-! what a tally makes of one reading -/
/-- the tally's slots: sum 0, present 1, absent 2, greatest 3, least 4, earliestHour 5, ofEarliest 6, latestHour 7, ofLatest 8 -/
def tadd (t u : Nat → Int) (h v : Int) : Prop :=
  if v = -10000 then u 0 = t 0 ∧ u 1 = t 1 ∧ u 2 = t 2 + 1 ∧ u 3 = t 3 ∧ u 4 = t 4 ∧ u 5 = t 5 ∧ u 6 = t 6 ∧ u 7 = t 7 ∧ u 8 = t 8 else
  u 0 = t 0 + v ∧ u 1 = t 1 + 1 ∧ u 2 = t 2 ∧ u 3 = (if t 1 = 0 ∨ t 3 < v then v else t 3) ∧ u 4 = (if t 1 = 0 ∨ v < t 4 then v else t 4) ∧
    u 5 = (if t 1 = 0 ∨ h < t 5 ∨ (h = t 5 ∧ t 6 < v) then h else t 5) ∧ u 6 = (if t 1 = 0 ∨ h < t 5 ∨ (h = t 5 ∧ t 6 < v) then v else t 6) ∧
    u 7 = (if t 1 = 0 ∨ t 7 < h ∨ (h = t 7 ∧ t 8 < v) then h else t 7) ∧ u 8 = (if t 1 = 0 ∨ t 7 < h ∨ (h = t 7 ∧ t 8 < v) then v else t 8)
set_option maxHeartbeats 8000000 in
theorem c_add {E : zE} {M : zM} {Q : Int → zM → Prop} {h0 v : Int} (hh : zR h0) (hv : zR v) (h1 : zR (M 26 1)) (h3 : zR (M 26 3)) (h4 : zR (M 26 4)) (h5 : zR (M 26 5)) (h6 : zR (M 26 6)) (h7 : zR (M 26 7)) (h8 : zR (M 26 8))
    (h : ∀ M' : zM, (∀ x, x ≠ 26 → M' x = M x) → tadd (M 26) (M' 26) h0 v → Q 0 M') : zP E mX8_add [.inr (.inr 26), .inl h0, .inl v] M Q := by
  refine vcX8_add _ _ ?_
  unfold zR at hh hv h1 h3 h4 h5 h6 h7 h8
  repeat' first
    | (intro M1 hM1; subst hM1)
    | refine ⟨?_, ?_⟩
    | intro _
  all_goals first
    | (clear h; simp only [zup_r]; simp; omega)
    | (clear h; omega)
    | (refine h _ (fun x hx => ?_) ?_
       · repeat rw [zup_ne _ _ _ hx]
       · clear h hh hv h1 h3 h4 h5 h6 h7 h8
         unfold tadd
         simp [zup_r] at *
         first
           | done
           | (simp [*]; done)
           | grind)
