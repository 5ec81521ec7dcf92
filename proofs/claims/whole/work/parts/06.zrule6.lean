/-! rules for the text of the words, which lies outside: -200 the String, -201 its bytes, -204 the formatter of a message -/
theorem zXt_of {E : zE} {d : zD} {p : Program} {s : State} {m : MethodId} {a : Array Value} {meth : Method} {c : Code} (hC : zCx E d p s m a meth c) : zXt E.1 E.2.2.2.2.1 (zAs E) s s.heap := hC.2.2.2.2.2.2.2.2.2.1.2.2.2.1.2
theorem zv_200 (E : zE) : zv E (.inr (.inr (-200))) = .ref (E.2.2.2.2.1 200) := rfl
theorem zv_201 (E : zE) : zv E (.inr (.inr (-201))) = .ref (E.2.2.2.2.1 201) := rfl
theorem zv_204 (E : zE) : zv E (.inr (.inr (-204))) = .ref (E.2.2.2.2.1 204) := rfl
theorem zv_m1 (E : zE) : zv E (.inr (.inr (-1))) = .null := rfl
section zs
variable {E : zE} {N : zN} {cu : Nat × Nat} {d : zD} {pc pc' : Nat} {al al' : List (Nat × zV)} {st : List zV} {M : zM} {Q : Int → zN → zM → Prop}
theorem zr_ldcS (hd : decode d.2.1 pc = .ok (.ldc 54, 2)) (hp : pc + 2 = pc') (hw : d.2.2.2.2.1 = "VolcanoWatch$Tape") (k : zA E N cu d pc' al (.inr (.inr (-200)) :: st) M Q) : zA E N cu d pc al st M Q := by
  subst hp
  intro p e s m args below meth c H locs ls hC hH hS hl
  have k := k p e s m args below meth c H locs ls hC hH hS hl
  rw [List.map_cons, zv_200] at k
  have h7 := (zXt_of hC.1).2.2.2.2.2.2.1
  rw [← hw] at h7
  exact va_ldcS hC.1.1 hC.1.2.1 hC.1.2.2.2.1 h7 hd k
theorem zr_getV {idx : Nat} (hd : decode d.2.1 pc = .ok (.getfield idx, 3)) (hp : pc + 3 = pc') (hw : Cond.fieldLink d.2.2.2.2.1 idx "java/lang/String" "value" "[B" ∈ zT) (k : zA E N cu d pc' al (.inr (.inr (-201)) :: st) M Q) : zA E N cu d pc al (.inr (.inr (-200)) :: st) M Q := by
  subst hp
  intro p e s m args below meth c H locs ls hC hH hS hl
  have k := k p e s m args below meth c H locs ls hC hH hS hl
  rw [List.map_cons, zv_201] at k
  rw [List.map_cons, zv_200]
  exact vk_getf hC.1.1 hC.1.2.1 ((zXt_of hC.1).2.2.2.2.2.2.2.2.1.1 0 (by decide)).2.2.1 hS hC.1.2.2.2.1 (hC.1.2.2.2.2.1 _ hw) (fun _ h => h) hd k
theorem zr_getC {idx : Nat} (hd : decode d.2.1 pc = .ok (.getfield idx, 3)) (hp : pc + 3 = pc') (hw : Cond.fieldLink d.2.2.2.2.1 idx "java/lang/String" "coder" "B" ∈ zT) (k : zA E N cu d pc' al (.inl 0 :: st) M Q) : zA E N cu d pc al (.inr (.inr (-200)) :: st) M Q := by
  subst hp
  intro p e s m args below meth c H locs ls hC hH hS hl
  have k := k p e s m args below meth c H locs ls hC hH hS hl
  rw [List.map_cons] at k
  rw [List.map_cons, zv_200]
  exact vk_getf hC.1.1 hC.1.2.1 ((zXt_of hC.1).2.2.2.2.2.2.2.2.1.1 0 (by decide)).2.1 hS hC.1.2.2.2.1 (hC.1.2.2.2.2.1 _ hw) (fun _ h => h) hd k
theorem zr_alenO (hd : decode d.2.1 pc = .ok (.arraylength, 1)) (hp : pc + 1 = pc') (k : zA E N cu d pc' al (.inl 77 :: st) M Q) : zA E N cu d pc al (.inr (.inr (-201)) :: st) M Q := by
  subst hp
  intro p e s m args below meth c H locs ls hC hH hS hl
  have k := k p e s m args below meth c H locs ls hC hH hS hl
  rw [List.map_cons] at k
  rw [List.map_cons, zv_201]
  exact va_tlen hC.1.1 hC.1.2.1 ((zXt_of hC.1).2.2.2.2.2.2.2.2.1.1 0 (by decide)).2.2.2 hS rfl hd k
theorem zWin_by : ∀ i : Nat, i < 77 → (([zWby] : List (List Int32)).getD 0 []).getD i 0 = Int32.ofInt (zWin.getD i 0) := by decide +kernel
theorem zr_baldO {i : Int} (hd : decode d.2.1 pc = .ok (.baload, 1)) (hp : pc + 1 = pc') (h0 : 0 ≤ i) (h1 : i < 77) (k : zA E N cu d pc' al (.inl (zWin.getD i.toNat 0) :: st) M Q) : zA E N cu d pc al (.inl i :: .inr (.inr (-201)) :: st) M Q := by
  subst hp
  intro p e s m args below meth c H locs ls hC hH hS hl
  have k := k p e s m args below meth c H locs ls hC hH hS hl
  rw [List.map_cons] at k
  rw [List.map_cons, List.map_cons, zv_201]
  refine va_tb hC.1.1 hC.1.2.1 ((zXt_of hC.1).2.2.2.2.2.2.2.2.1.1 0 (by decide)).2.2.2 hS (zin h0 h1 (by decide)) ?_ hd k
  rw [zcl h0 (by omega)]
  show Value.int _ = Value.int _
  rw [zWin_by _ (by omega)]
theorem zr_gets1 {idx : Nat} (hd : decode d.2.1 pc = .ok (.getstatic idx, 3)) (hp : pc + 3 = pc') (hw : Cond.fieldLink d.2.2.2.2.1 idx "java/lang/String" "COMPACT_STRINGS" "Z" ∈ zT) (k : zA E N cu d pc' al (.inl 1 :: st) M Q) : zA E N cu d pc al st M Q := by
  subst hp
  intro p e s m args below meth c H locs ls hC hH hS hl
  have k := k p e s m args below meth c H locs ls hC hH hS hl
  rw [List.map_cons] at k
  exact va_gets hC.1.1 hC.1.2.1 (zXt_of hC.1).2.2.2.2.2.2.2.2.2.1 hS hC.1.2.2.2.1 (hC.1.2.2.2.2.1 _ hw) (fun _ h9 => h9) hd k
theorem zr_getsQ {idx : Nat} (hd : decode d.2.1 pc = .ok (.getstatic idx, 3)) (hp : pc + 3 = pc') (hw : Cond.fieldLink d.2.2.2.2.1 idx zPrc "SIOOBE_FORMATTER" "Ljava/util/function/BiFunction;" ∈ zT) (k : ∀ r : Int, r = -1 ∨ r = -204 → zA E N cu d pc' al (.inr (.inr r) :: st) M Q) : zA E N cu d pc al st M Q := by
  subst hp
  intro p e s m args below meth c H locs ls hC hH hS hl
  rcases (zXt_of hC.1).2.2.2.2.2.2.2.2.2.2.1 with h | h
  · have k := k (-1) (Or.inl rfl) p e s m args below meth c H locs ls hC hH hS hl
    rw [List.map_cons, zv_m1] at k
    exact va_gets hC.1.1 hC.1.2.1 h hS hC.1.2.2.2.1 (hC.1.2.2.2.2.1 _ hw) (fun _ h9 => h9) hd k
  · have k := k (-204) (Or.inr rfl) p e s m args below meth c H locs ls hC hH hS hl
    rw [List.map_cons, zv_204] at k
    exact va_gets hC.1.1 hC.1.2.1 h hS hC.1.2.2.2.1 (hC.1.2.2.2.2.1 _ hw) (fun _ h9 => h9) hd k
theorem zi2c : ∀ n : Fin 128, ((Int32.ofInt ((n : Nat) : Int)).toUInt32 % 65536).toInt32 = Int32.ofInt ((n : Nat) : Int) := by decide +kernel
theorem zr_i2c {x : Int} (hd : decode d.2.1 pc = .ok (.i2c, 1)) (hp : pc + 1 = pc') (hx : 0 ≤ x ∧ x ≤ 127) (k : zA E N cu d pc' al (.inl x :: st) M Q) : zA E N cu d pc al (.inl x :: st) M Q := by
  subst hp
  intro p e s m args below meth c H locs ls hC hH hS hl
  have k := k p e s m args below meth c H locs ls hC hH hS hl
  rw [List.map_cons] at k ⊢
  refine lv_i2c hC.1.1 hC.1.2.1 hd ?_ k
  have h := zi2c ⟨x.toNat, by omega⟩
  have e1 : ((x.toNat : Nat) : Int) = x := by omega
  simp only [e1] at h
  exact h
/-- the words of a call of a method of the String -/
def zCvo (own : String) (idx : Nat) (d2 : zD) (n : Nat) : Prop := d2.1.cls = "java/lang/String" ∧ Cond.methodLink own idx d2.1 ∈ zT ∧ Cond.instanceMethod d2.1 ∈ zT ∧ Cond.selects "java/lang/String" d2.1 d2.1 ∈ zT ∧ Cond.initialized "java/lang/String" ∈ zT ∧ Cond.code d2.1 d2.2.1 d2.2.2.1 d2.2.2.2.1 ∈ zT ∧ d2.1.cls ≠ "java/lang/invoke/MethodHandle" ∧ d2.1.cls ≠ "java/lang/invoke/VarHandle" ∧ (parseMethodDescriptor d2.1.desc).map (fun d => d.parameters.length) = some n
theorem zr_callVO {d2 : zD} {idx n : Nat} {args st0 : List zV} {Q' : Int → zN → zM → Prop} {st' : Int → List zV} (hd : decode d.2.1 pc = .ok (.invokevirtual idx, 3)) (hp : pc + 3 = pc') (hw : zCvo d.2.2.2.2.1 idx d2 n) (hR : zRm d d2) (hn : args.length = n) (hst : args.reverse ++ .inr (.inr (-200)) :: st = st0) (h8 : (st.map zcat).sum ≤ 8) (hcu : cu.1 + d2.2.2.2.2.2.2.1 ≤ d.2.2.2.2.2.1.cells ∧ cu.2 + d2.2.2.2.2.2.2.2 ≤ d.2.2.2.2.2.1.slots) (hr : ∀ r, zpu d2.2.2.2.1 r st = st' r)
    (hN : ∀ r N' M', Q' r N' M' → N'.2.2 = true → N.2.2 = true ∧ N'.1.length = N.1.length + d2.2.2.2.2.2.2.1)
    (hM : zC E N d2 (.inr (.inr (-200)) :: args) M Q') (k : ∀ r N' M', Q' r N' M' → zA E N' (cu.1 + d2.2.2.2.2.2.2.1, cu.2 + d2.2.2.2.2.2.2.2) d pc' al (st' r) M' Q) : zA E N cu d pc al st0 M Q := by
  subst hp hst
  intro p e s m a below meth c H locs ls hC hH hS hl T0 hT0 X0
  have hsz : N.2.2 = true → H.size = E.2.2.2.1 + N.1.length := fun h => by
    rw [← hT0]
    exact zsize X0 (by rw [hT0]; exact hH) hC.1.2.2.2.2.2.2.2.2.1 (hC.2 h)
  obtain ⟨hcls, w1, w2, w3, w4, w5, w6, w7, w8⟩ := hw
  have cw : CallW d.2.2.2.2.2.1 s a d.2.2.2.2.1 "java/lang/String" idx d2.1 d2.2.1 d2.2.2.1 d2.2.2.2.1 (zws d2) d2.2.2.2.2.2.1 d2.2.2.2.2.2.2.1 d2.2.2.2.2.2.2.2 n := by
    refine cwV (ws' := zT) n hC.1.2.2.2.2.1 (zgood (fun w h => ?_)) rfl hR.1 hR.2.1 ⟨hcls, w6, w7, w8⟩ ⟨hR.2.2.1, hR.2.2.2⟩
    unfold wsV at h
    rcases List.mem_append.mp h with h | h
    · simp only [List.mem_cons, List.not_mem_nil, or_false] at h
      rcases h with rfl | rfl | rfl | rfl
      · exact w1
      · exact w2
      · exact w3
      · exact w4
    · exact zcode_in w5 w h
  have hK := hC.1.2.2.2.2.2.2.2.1
  refine zcall_go (d2 := d2) hr hN k hC hS hl (W.runV (b := E.2.2.2.2.1 200) (As := args.map (zv E)) (rest := st.map (zv E)) ⟨hC.1.1, hC.1.2.1, hC.1.2.2.1, hC.1.2.2.2.1, hC.1.2.2.2.2.1⟩ hM cw ⟨zpre_blind E N M _, vk_recv (i := 0) (zXt_of hC.1).2.2.2.2.2.2.2.2.1 (by decide) hS, fun U hU hW => ⟨?_, by rw [hU]; exact hH, va_K.moved hW.alike hK, by rw [hU]; exact Nat.le_trans hC.1.2.2.2.2.2.2.2.2.1 hS.1, hC.1.2.2.2.2.2.2.2.2.2.1.pass hW hU hS hC.1.2.2.2.2.2.2.2.2.1, ?_⟩⟩ rfl (by rw [List.length_map]; exact hn) hl.1 ?_ ?_ hd hcu) T0 hT0 X0
  · rw [List.map_cons, zv_200]
  · intro h
    rw [hU]
    exact hsz h
  · rw [List.map_append, List.map_cons, List.map_reverse, zv_200]
  · refine lv_room ?_
    rw [zcat_sum]
    exact h8
end zs
