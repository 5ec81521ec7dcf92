/-! rules of the abstract machine: constructors called, nest mates, static arrays, Math -/
section zr
variable {E : zE} {N : zN} {cu : Nat × Nat} {d : zD} {pc pc' : Nat} {al al' : List (Nat × zV)} {st : List zV} {M : zM} {Q : Int → zN → zM → Prop}
/-- the words of a constructor's call -/
def zCi (own : String) (idx : Nat) (d2 : zD) (n : Nat) : Prop := Cond.methodLink own idx d2.1 ∈ zT ∧ Cond.instanceMethod d2.1 ∈ zT ∧ Cond.initialized d2.1.cls ∈ zT ∧ Cond.code d2.1 d2.2.1 d2.2.2.1 d2.2.2.2.1 ∈ zT ∧ d2.1.cls ≠ "java/lang/invoke/MethodHandle" ∧ d2.1.cls ≠ "java/lang/invoke/VarHandle" ∧ (parseMethodDescriptor d2.1.desc).map (fun d => d.parameters.length) = some n ∧ d2.1.name = "<init>" ∧ d2.2.2.2.1 = none
/-- the same of a nest mate's private one -/
def zCin (own host : String) (idx : Nat) (d2 : zD) (n : Nat) : Prop := (own, idx, d2.1, host) ∈ zNestM ∧ Cond.instanceMethod d2.1 ∈ zT ∧ Cond.initialized d2.1.cls ∈ zT ∧ Cond.code d2.1 d2.2.1 d2.2.2.1 d2.2.2.2.1 ∈ zT ∧ d2.1.cls ≠ "java/lang/invoke/MethodHandle" ∧ d2.1.cls ≠ "java/lang/invoke/VarHandle" ∧ (parseMethodDescriptor d2.1.desc).map (fun d => d.parameters.length) = some n ∧ d2.1.name = "<init>" ∧ d2.2.2.2.1 = none
def zCsn (own host : String) (idx : Nat) (d2 : zD) (n : Nat) : Prop := (own, idx, d2.1, host) ∈ zNestM ∧ Cond.static d2.1 ∈ zT ∧ Cond.initialized d2.1.cls ∈ zT ∧ Cond.code d2.1 d2.2.1 d2.2.2.1 d2.2.2.2.1 ∈ zT ∧ d2.1.cls ≠ "java/lang/invoke/MethodHandle" ∧ d2.1.cls ≠ "java/lang/invoke/VarHandle" ∧ (parseMethodDescriptor d2.1.desc).map (fun d => d.parameters.length) = some n
theorem zr_callI {d2 : zD} {idx n : Nat} {b : Int} {args st0 : List zV} {Q' : Int → zN → zM → Prop} (hd : decode d.2.1 pc = .ok (.invokespecial idx, 3)) (hp : pc + 3 = pc') (hw : zCi d.2.2.2.2.1 idx d2 n) (hR : zRm d d2) (hb : 0 ≤ b) (hn : args.length = n) (hst : args.reverse ++ .inr (.inr b) :: st = st0) (h8 : (st.map zcat).sum ≤ 8) (hcu : cu.1 + d2.2.2.2.2.2.2.1 ≤ d.2.2.2.2.2.1.cells ∧ cu.2 + d2.2.2.2.2.2.2.2 ≤ d.2.2.2.2.2.1.slots)
    (hN : ∀ r N' M', Q' r N' M' → N'.2.2 = true → N.2.2 = true ∧ N'.1.length = N.1.length + d2.2.2.2.2.2.2.1)
    (hM : zC E N d2 (.inr (.inr b) :: args) M Q') (k : ∀ r N' M', Q' r N' M' → zA E N' (cu.1 + d2.2.2.2.2.2.2.1, cu.2 + d2.2.2.2.2.2.2.2) d pc' al st M' Q) : zA E N cu d pc al st0 M Q := by
  subst hp hst
  intro p e s m a below meth c H locs ls hC hH hS hl T0 hT0 X0
  have hsz : N.2.2 = true → H.size = E.2.2.2.1 + N.1.length := fun h => by
    rw [← hT0]
    exact zsize X0 (by rw [hT0]; exact hH) hC.1.2.2.2.2.2.2.2.2.1 (hC.2 h)
  obtain ⟨w1, w2, w4, w5, w6, w7, w8, w9, w10⟩ := hw
  have hts := hC.1.2.2.2.2.1
  have cw : CallB d.2.2.2.2.2.1 s a d.2.2.2.2.1 idx d2.1 d2.2.1 d2.2.2.1 none (zws d2) d2.2.2.2.2.2.1 d2.2.2.2.2.2.2.1 d2.2.2.2.2.2.2.2 n ∧ d2.1.name = "<init>" ∧ (Cond.instanceMethod d2.1).before a s = true := by
    refine ⟨callB_of (ws' := zT) n hts (zgood (zcode_in w5)) (by unfold zws; rw [w10]) hR.1 hR.2.1 (hts _ w4) (hts _ w1) ⟨w6, w7, w8⟩ ⟨hR.2.2.1, hR.2.2.2⟩, w9, hts _ w2⟩
  have hK := hC.1.2.2.2.2.2.2.2.1
  refine zcall_go (d2 := d2) (st' := fun _ => st) (fun r => by rw [w10]; rfl) hN k hC hS hl (W.runI (b := E.2.2.2.1 + b.toNat) (As := args.map (zv E)) (rest := st.map (zv E)) ⟨hC.1.1, hC.1.2.1, hC.1.2.2.1, hC.1.2.2.2.1, hC.1.2.2.2.2.1⟩ hM cw ⟨zpre_blind E N M _, fun U hU hW => ⟨?_, by rw [hU]; exact hH, va_K.moved hW.alike hK, by rw [hU]; exact Nat.le_trans hC.1.2.2.2.2.2.2.2.2.1 hS.1, hC.1.2.2.2.2.2.2.2.2.2.1.pass hW hU hS hC.1.2.2.2.2.2.2.2.2.1, ?_⟩⟩ rfl (by rw [List.length_map]; exact hn) hl.1 ?_ ?_ hd hcu) T0 hT0 X0
  · rw [List.map_cons, zv_ref E hb]
  · intro h
    rw [hU]
    exact hsz h
  · rw [List.map_append, List.map_cons, List.map_reverse, zv_ref E hb]
  · refine lv_room ?_
    rw [zcat_sum]
    exact h8
theorem zr_callIN {d2 : zD} {host : String} {idx n : Nat} {b : Int} {args st0 : List zV} {Q' : Int → zN → zM → Prop} (hd : decode d.2.1 pc = .ok (.invokespecial idx, 3)) (hp : pc + 3 = pc') (hw : zCin d.2.2.2.2.1 host idx d2 n) (hR : zRm d d2) (hb : 0 ≤ b) (hn : args.length = n) (hst : args.reverse ++ .inr (.inr b) :: st = st0) (h8 : (st.map zcat).sum ≤ 8) (hcu : cu.1 + d2.2.2.2.2.2.2.1 ≤ d.2.2.2.2.2.1.cells ∧ cu.2 + d2.2.2.2.2.2.2.2 ≤ d.2.2.2.2.2.1.slots)
    (hN : ∀ r N' M', Q' r N' M' → N'.2.2 = true → N.2.2 = true ∧ N'.1.length = N.1.length + d2.2.2.2.2.2.2.1)
    (hM : zC E N d2 (.inr (.inr b) :: args) M Q') (k : ∀ r N' M', Q' r N' M' → zA E N' (cu.1 + d2.2.2.2.2.2.2.1, cu.2 + d2.2.2.2.2.2.2.2) d pc' al st M' Q) : zA E N cu d pc al st0 M Q := by
  subst hp hst
  intro p e s m a below meth c H locs ls hC hH hS hl T0 hT0 X0
  have hsz : N.2.2 = true → H.size = E.2.2.2.1 + N.1.length := fun h => by
    rw [← hT0]
    exact zsize X0 (by rw [hT0]; exact hH) hC.1.2.2.2.2.2.2.2.2.1 (hC.2 h)
  obtain ⟨w1, w2, w4, w5, w6, w7, w8, w9, w10⟩ := hw
  have hts := hC.1.2.2.2.2.1
  have hX := hC.1.2.2.2.2.2.2.2.2.2.1
  have hnw := hX.1 _ w1
  have cw : va_CN d.2.2.2.2.2.1 s a d.2.2.2.2.1 idx d2.1 host d2.2.1 d2.2.2.1 none (zws d2) d2.2.2.2.2.2.1 d2.2.2.2.2.2.2.1 d2.2.2.2.2.2.2.2 n ∧ d2.1.name = "<init>" ∧ (Cond.instanceMethod d2.1).before a s = true := by
    refine ⟨va_cnB (ws' := zT) n hts (zgood (zcode_in w5)) (by unfold zws; rw [w10]) hR.1 hR.2.1 hnw (hts _ w4) ⟨w6, w7, w8⟩ ⟨hR.2.2.1, hR.2.2.2⟩, w9, hts _ w2⟩
  have hK := hC.1.2.2.2.2.2.2.2.1
  refine zcall_go (d2 := d2) (st' := fun _ => st) (fun r => by rw [w10]; rfl) hN k hC hS hl (crun_of (va_runIN (b := E.2.2.2.1 + b.toNat) (As := args.map (zv E)) (rest := st.map (zv E)) ⟨hC.1.1, hC.1.2.1, hC.1.2.2.1, hC.1.2.2.2.1, hC.1.2.2.2.2.1⟩ hM cw ⟨zpre_blind E N M _, fun U hU hW => ⟨?_, by rw [hU]; exact hH, va_K.moved hW.alike hK, by rw [hU]; exact Nat.le_trans hC.1.2.2.2.2.2.2.2.2.1 hS.1, hX.pass hW hU hS hC.1.2.2.2.2.2.2.2.2.1, ?_⟩⟩ rfl (by rw [List.length_map]; exact hn) hl.1 ?_ ?_ hd hcu)) T0 hT0 X0
  · rw [List.map_cons, zv_ref E hb]
  · intro h
    rw [hU]
    exact hsz h
  · rw [List.map_append, List.map_cons, List.map_reverse, zv_ref E hb]
  · refine lv_room ?_
    rw [zcat_sum]
    exact h8
theorem zr_callSN {d2 : zD} {host : String} {idx n : Nat} {args st0 : List zV} {Q' : Int → zN → zM → Prop} {st' : Int → List zV} (hd : decode d.2.1 pc = .ok (.invokestatic idx, 3)) (hp : pc + 3 = pc') (hw : zCsn d.2.2.2.2.1 host idx d2 n) (hR : zRm d d2) (hn : args.length = n) (hst : args.reverse ++ st = st0) (h8 : (st.map zcat).sum ≤ 8) (hcu : cu.1 + d2.2.2.2.2.2.2.1 ≤ d.2.2.2.2.2.1.cells ∧ cu.2 + d2.2.2.2.2.2.2.2 ≤ d.2.2.2.2.2.1.slots) (hr : ∀ r, zpu d2.2.2.2.1 r st = st' r)
    (hN : ∀ r N' M', Q' r N' M' → N'.2.2 = true → N.2.2 = true ∧ N'.1.length = N.1.length + d2.2.2.2.2.2.2.1)
    (hM : zC E N d2 args M Q') (k : ∀ r N' M', Q' r N' M' → zA E N' (cu.1 + d2.2.2.2.2.2.2.1, cu.2 + d2.2.2.2.2.2.2.2) d pc' al (st' r) M' Q) : zA E N cu d pc al st0 M Q := by
  subst hp hst
  intro p e s m a below meth c H locs ls hC hH hS hl T0 hT0 X0
  have hsz : N.2.2 = true → H.size = E.2.2.2.1 + N.1.length := fun h => by
    rw [← hT0]
    exact zsize X0 (by rw [hT0]; exact hH) hC.1.2.2.2.2.2.2.2.2.1 (hC.2 h)
  obtain ⟨w1, w2, w4, w5, w6, w7, w8⟩ := hw
  have hts := hC.1.2.2.2.2.1
  have hX := hC.1.2.2.2.2.2.2.2.2.2.1
  have hnw := hX.1 _ w1
  have cw : va_CN d.2.2.2.2.2.1 s a d.2.2.2.2.1 idx d2.1 host d2.2.1 d2.2.2.1 d2.2.2.2.1 (zws d2) d2.2.2.2.2.2.1 d2.2.2.2.2.2.2.1 d2.2.2.2.2.2.2.2 n ∧ (Cond.static d2.1).before a s = true ∧ True := by
    refine ⟨va_cnB (ws' := zT) n hts (zgood (zcode_in w5)) rfl hR.1 hR.2.1 hnw (hts _ w4) ⟨w6, w7, w8⟩ ⟨hR.2.2.1, hR.2.2.2⟩, hts _ w2, trivial⟩
  have hK := hC.1.2.2.2.2.2.2.2.1
  refine zcall_go (d2 := d2) hr hN k hC hS hl (crun_of (va_runSN (As := args.map (zv E)) (rest := st.map (zv E)) ⟨hC.1.1, hC.1.2.1, hC.1.2.2.1, hC.1.2.2.2.1, hC.1.2.2.2.2.1⟩ hM cw ⟨zpre_blind E N M _, fun U hU hW => ⟨rfl, by rw [hU]; exact hH, va_K.moved hW.alike hK, by rw [hU]; exact Nat.le_trans hC.1.2.2.2.2.2.2.2.2.1 hS.1, hX.pass hW hU hS hC.1.2.2.2.2.2.2.2.2.1, ?_⟩⟩ rfl (by rw [List.length_map]; exact hn) hl.1 ?_ ?_ hd hcu)) T0 hT0 X0
  · intro h
    rw [hU]
    exact hsz h
  · rw [List.map_append, List.map_reverse]
  · refine lv_room ?_
    rw [zcat_sum]
    exact h8
/-- a nest mate's private field -/
def zFln (own host : String) (idx ci j : Nat) : Prop := ∃ (C : String) (T : u_T) (Nf : Nat), vwCl[ci]? = some (C, T, Nf) ∧ j < Nf ∧ (own, idx, (T j).1, (T j).2.1, (T j).2.2.1, host) ∈ zNestF
theorem zfln_has {own host : String} {idx ci j : Nat} (h : zFln own host idx ci j) (h2 : zKc ci) : ∃ (C : String) (T : u_T) (Nf : Nat), vwCl[ci]? = some (C, T, Nf) ∧ j < Nf ∧ (own, idx, (T j).1, (T j).2.1, (T j).2.2.1, host) ∈ zNestF ∧ ci < 100 ∧ znf ci = Nf ∧ (∀ w ∈ u_ws C T Nf, w ∈ zT) ∧ (∀ k, k < Nf → parseFieldDescriptor (T k).2.2.1 = some (zty ci k)) ∧ (∀ a, a < Nf → ∀ b, b < Nf → a ≠ b → (T a).2.1 ≠ (T b).2.1) ∧ (T j).2.2.2 = zfin ci j := by
  obtain ⟨C, T, Nf, h1, hj, hm⟩ := h
  obtain ⟨C', T', Nf', h1', h3, h4, h5, h6, h7⟩ := h2
  rw [h1] at h1'
  cases h1'
  have hg : vwCl.getD ci ("", (fun _ => ("", "", "", false)), 0) = (C, T, Nf) := by rw [List.getD_eq_getElem?_getD, h1]; rfl
  exact ⟨C, T, Nf, h1, hj, hm, h3, h4, h5, h6, h7, by unfold zfin; rw [hg]⟩
theorem zr_getN {a : Int} {idx ci j n : Nat} {host : String} {v : zV} (hd : decode d.2.1 pc = .ok (.getfield idx, 3)) (hp : pc + 3 = pc') (ha : 0 ≤ a) (hk : N.1[a.toNat]? = some (ci, n)) (hF : zFln d.2.2.2.2.1 host idx ci j) (hc : zKc ci) (hv : zfV (zty ci j) (zg N M a.toNat j) = v) (k : zA E N cu d pc' al (v :: st) M Q) : zA E N cu d pc al (.inr (.inr a) :: st) M Q := by
  subst hp hv
  intro p e s m args below meth c H locs ls hC hH hS hl
  have k := k p e s m args below meth c H locs ls hC hH hS hl
  obtain ⟨C, T, Nf, h1, hj, hm, h3, h4, h5, h6, h7, -⟩ := zfln_has hF hc
  have hw := zw_get E N M hk
  rw [zent_ob E N M _ h3] at hw
  rw [List.map_cons, zfV_rep] at k
  rw [List.map_cons, zv_ref E ha]
  refine va_getN (ws := zw E N M) hC.1.1 hC.1.2.1 hC.1.2.2.2.2.1 h5 hC.1.2.2.2.1 hC.1.2.2.2.2.2.2.2.1 hH a.toNat hw h1 j hj (va_Nw.use rfl (hC.1.2.2.2.2.2.2.2.2.2.1.2.1 _ hm)) (fun _ h9 => h9) ?_ hd k
  rw [List.getElem?_map, List.getElem?_range (by rw [h4]; exact hj)]
  rfl
theorem zr_putN {a : Int} {idx ci j n : Nat} {host : String} {x : Int} {v : zV} (hd : decode d.2.1 pc = .ok (.putfield idx, 3)) (hp : pc + 3 = pc') (ha : 0 ≤ a) (hk : N.1[a.toNat]? = some (ci, n)) (hF : zFln d.2.2.2.2.1 host idx ci j) (hc : zKc ci) (hfin : zfin ci j = false) (hN : N.2.1 a.toNat j = none) (hv : zfV (zty ci j) x = v) (hok : zOk (zty ci j) x) (k : ∀ M1, M1 = zup M a.toNat j x → zA E N cu d pc' al st M1 Q) : zA E N cu d pc al (v :: .inr (.inr a) :: st) M Q := by
  subst hp hv
  intro p e s m args below meth c H locs ls hC hH hS hl
  obtain ⟨C, T, Nf, h1, hj, hm, h3, h4, h5, h6, h7, h8⟩ := zfln_has hF hc
  have hw := zw_get E N M hk
  rw [zent_ob E N M _ h3] at hw
  rw [List.map_cons, List.map_cons, zv_ref E ha, zfV_rep]
  have hz := zOk_rep E hok
  refine va_putN (ws := zw E N M) (A := zAs E) hC.1.1 hC.1.2.1 hC.1.2.2.2.2.1 h5 (zty ci) h6 h7 hC.1.2.2.2.1 hC.1.2.2.2.2.2.2.2.1 hH (zw_D E N M) hS a.toNat hw h1 j hj (va_Nw.use rfl (hC.1.2.2.2.2.2.2.2.2.2.1.2.1 _ hm)) (fun _ h9 => h9) (by rw [h8]; exact hfin) (h6 j hj) hz.1 hz.2 (by rw [List.length_map, List.length_range, h4]; exact hj) hd (fun H1 locs1 hP1 hD1 hS1 => ?_)
  rw [zw_put E N M hk h3 hN x (by rw [h4]; exact hj)] at hP1
  exact k _ rfl p e s m args below meth c H1 locs1 ls hC hP1 hS1 hl
/-- a place of an array of objects -/
theorem zr_aast {a i x : Int} {n t t0 ci kn : Nat} {C : String} {T : u_T} {nf : Nat} (hd : decode d.2.1 pc = .ok (.aastore, 1)) (hp : pc + 1 = pc') (ha : 0 ≤ a) (hk : N.1[a.toNat]? = some (t, n)) (ht : 103 ≤ t) (ht0 : ∀ E : zE, (ztys E)[t0]? = some (E.2.2.1 t, .object C)) (hx : 0 ≤ x) (hkx : N.1[x.toNat]? = some (ci, kn)) (hci : ci < 100) (h1c : vwCl[ci]? = some (C, T, nf)) (hn : n < 2147483648) (h0 : 0 ≤ i) (h1 : i < n) (k : ∀ M1, M1 = zup M a.toNat i.toNat x → zA E N cu d pc' al st M1 Q) : zA E N cu d pc al (.inr (.inr x) :: .inl i :: .inr (.inr a) :: st) M Q := by
  subst hp
  intro p e s m args below meth c H locs ls hC hH hS hl
  have hw := zw_get E N M hk
  have hwx := zw_get E N M hkx
  rw [zent_ref E N M _ _ ht] at hw
  rw [zent_ob E N M _ hci] at hwx
  rw [List.map_cons, List.map_cons, List.map_cons, zv_ref E ha, zv_ref E hx]
  have hz := zcl h0 (by omega)
  refine va_astq (ws := zw E N M) (A := zAs E) (r := (C, T, nf)) hC.1.1 hC.1.2.1 hC.1.2.2.2.2.2.2.2.1 hH (zw_D E N M) hS a.toNat t0 x.toNat ci hw (ht0 E) hwx h1c (zin h0 h1 hn) hd (fun H1 locs1 hP1 hD1 hS1 => ?_)
  rw [hz, zw_set E N M (a := a.toNat) (kd := (t, n)) i.toNat x hk (by
    rw [zent_ref E N _ _ _ ht, zup_eq]
    congr 7
    funext y
    unfold va_up
    by_cases hy : y = i.toNat
    · simp only [if_pos hy]
      exact zrf_pos E hx
    · simp only [if_neg hy])] at hP1
  exact k _ rfl p e s m args below meth c H1 locs1 ls hC hP1 hS1 hl
/-- a static array of ints: its reference is -k -/
theorem zr_gets {q : String × String × Nat × List Int} {idx : Nat} {r : Int} (hd : decode d.2.1 pc = .ok (.getstatic idx, 3)) (hp : pc + 3 = pc') (hq : q ∈ zOuts) (hw : Cond.fieldLink d.2.2.2.2.1 idx q.1 q.2.1 "[I" ∈ zT) (hr : r < -1) (hrk : (-r).toNat = q.2.2.1) (k : zA E N cu d pc' al (.inr (.inr r) :: st) M Q) : zA E N cu d pc al st M Q := by
  subst hp
  intro p e s m args below meth c H locs ls hC hH hS hl
  have k := k p e s m args below meth c H locs ls hC hH hS hl
  have hv : zv E (.inr (.inr r)) = .ref (E.2.2.2.2.1 q.2.2.1) := by
    show va_rf (zrf E r) = _
    unfold zrf
    rw [if_neg (by omega), if_pos (by omega), hrk]
    rfl
  rw [List.map_cons, hv] at k
  exact va_gets hC.1.1 hC.1.2.1 (hC.1.2.2.2.2.2.2.2.2.2.1.2.2.1 q hq).1 hS hC.1.2.2.2.1 (hC.1.2.2.2.2.1 _ hw) (fun _ h9 => h9) hd k
theorem zr_ialdO {q : String × String × Nat × List Int} {r i : Int} (hd : decode d.2.1 pc = .ok (.iaload, 1)) (hp : pc + 1 = pc') (hq : q ∈ zOuts) (hr : r < -1) (hrk : (-r).toNat = q.2.2.1) (hn : q.2.2.2.length < 2147483648) (h0 : 0 ≤ i) (h1 : i < q.2.2.2.length) (k : zA E N cu d pc' al (.inl (q.2.2.2.getD i.toNat 0) :: st) M Q) : zA E N cu d pc al (.inl i :: .inr (.inr r) :: st) M Q := by
  subst hp
  intro p e s m args below meth c H locs ls hC hH hS hl
  have k := k p e s m args below meth c H locs ls hC hH hS hl
  have hv : zv E (.inr (.inr r)) = .ref (E.2.2.2.2.1 q.2.2.1) := by
    show va_rf (zrf E r) = _
    unfold zrf
    rw [if_neg (by omega), if_pos (by omega), hrk]
    rfl
  rw [List.map_cons] at k
  rw [List.map_cons, List.map_cons, hv]
  exact va_ti hC.1.1 hC.1.2.1 (hC.1.2.2.2.2.2.2.2.2.2.1.2.2.1 q hq).2 hS (zin h0 h1 hn) (by rw [zcl h0 (by omega)]; rfl) hd k
theorem zr_min {x y : Int} {idx : Nat} (hd : decode d.2.1 pc = .ok (.invokestatic idx, 3)) (hp : pc + 3 = pc') (w1 : Cond.methodLink d.2.2.2.2.1 idx Lib.Math.min.name ∈ zT) (w2 : Cond.static Lib.Math.min.name ∈ zT) (w3 : Cond.initialized "java/lang/Math" ∈ zT) (w4 : Cond.code Lib.Math.min.name Lib.Math.min.code 2 (some .int) ∈ zT) (h1 : 1 ≤ d.2.2.2.2.2.1.frames) (h2 : (st.map zcat).sum + 13 ≤ d.2.2.2.2.2.1.locals) (hc1 : cu.1 ≤ d.2.2.2.2.2.1.cells) (hc2 : cu.2 ≤ d.2.2.2.2.2.1.slots) (hx : zR x) (hy : zR y) (k : zA E N cu d pc' al (.inl (if y < x then y else x) :: st) M Q) : zA E N cu d pc al (.inl y :: .inl x :: st) M Q := by
  subst hp
  intro p e s m args below meth c H locs ls hC hH hS hl
  have k := k p e s m args below meth c H locs ls hC hH hS hl
  have hts := hC.1.2.2.2.2.1
  rw [List.map_cons] at k
  rw [List.map_cons, List.map_cons]
  refine va_mmin hC.1.1 hC.1.2.1 (by rw [hC.1.2.2.1]; exact hl.1.symm) hC.1.2.2.2.1 (hts _ w1) (hts _ w2) (hts _ w3) (hts _ w4) h1 (by rw [zcat_sum]; exact h2) hc1 hc2 hd ?_
  have he : (if Int32.ofInt y < Int32.ofInt x then Int32.ofInt y else Int32.ofInt x) = Int32.ofInt (if y < x then y else x) := by
    by_cases h : y < x
    · rw [if_pos ((zlt hy hx).mpr h), if_pos h]
    · rw [if_neg (fun g => h ((zlt hy hx).mp g)), if_neg h]
  rw [he]
  exact k
theorem zr_max {x y : Int} {idx : Nat} (hd : decode d.2.1 pc = .ok (.invokestatic idx, 3)) (hp : pc + 3 = pc') (w1 : Cond.methodLink d.2.2.2.2.1 idx Lib.Math.max.name ∈ zT) (w2 : Cond.static Lib.Math.max.name ∈ zT) (w3 : Cond.initialized "java/lang/Math" ∈ zT) (w4 : Cond.code Lib.Math.max.name Lib.Math.max.code 2 (some .int) ∈ zT) (h1 : 1 ≤ d.2.2.2.2.2.1.frames) (h2 : (st.map zcat).sum + 13 ≤ d.2.2.2.2.2.1.locals) (hc1 : cu.1 ≤ d.2.2.2.2.2.1.cells) (hc2 : cu.2 ≤ d.2.2.2.2.2.1.slots) (hx : zR x) (hy : zR y) (k : zA E N cu d pc' al (.inl (if x < y then y else x) :: st) M Q) : zA E N cu d pc al (.inl y :: .inl x :: st) M Q := by
  subst hp
  intro p e s m args below meth c H locs ls hC hH hS hl
  have k := k p e s m args below meth c H locs ls hC hH hS hl
  have hts := hC.1.2.2.2.2.1
  rw [List.map_cons] at k
  rw [List.map_cons, List.map_cons]
  refine va_mmax hC.1.1 hC.1.2.1 (by rw [hC.1.2.2.1]; exact hl.1.symm) hC.1.2.2.2.1 (hts _ w1) (hts _ w2) (hts _ w3) (hts _ w4) h1 (by rw [zcat_sum]; exact h2) hc1 hc2 hd ?_
  have he : (if Int32.ofInt x < Int32.ofInt y then Int32.ofInt y else Int32.ofInt x) = Int32.ofInt (if x < y then y else x) := by
    by_cases h : x < y
    · rw [if_pos ((zlt hx hy).mpr h), if_pos h]
    · rw [if_neg (fun g => h ((zlt hx hy).mp g)), if_neg h]
  rw [he]
  exact k
theorem zr_abs {x : Int} {idx : Nat} (hd : decode d.2.1 pc = .ok (.invokestatic idx, 3)) (hp : pc + 3 = pc') (w1 : Cond.methodLink d.2.2.2.2.1 idx Lib.Math.abs.name ∈ zT) (w2 : Cond.static Lib.Math.abs.name ∈ zT) (w3 : Cond.initialized "java/lang/Math" ∈ zT) (w4 : Cond.code Lib.Math.abs.name Lib.Math.abs.code 1 (some .int) ∈ zT) (h1 : 1 ≤ d.2.2.2.2.2.1.frames) (h2 : (st.map zcat).sum + 13 ≤ d.2.2.2.2.2.1.locals) (hc1 : cu.1 ≤ d.2.2.2.2.2.1.cells) (hc2 : cu.2 ≤ d.2.2.2.2.2.1.slots) (hx : zR x) (k : zA E N cu d pc' al (.inl (if 0 ≤ x then x else 0 - x) :: st) M Q) : zA E N cu d pc al (.inl x :: st) M Q := by
  subst hp
  intro p e s m args below meth c H locs ls hC hH hS hl
  have k := k p e s m args below meth c H locs ls hC hH hS hl
  have hts := hC.1.2.2.2.2.1
  rw [List.map_cons] at k
  rw [List.map_cons]
  refine va_mabs hC.1.1 hC.1.2.1 (by rw [hC.1.2.2.1]; exact hl.1.symm) hC.1.2.2.2.1 (hts _ w1) (hts _ w2) (hts _ w3) (hts _ w4) h1 (by rw [zcat_sum]; exact h2) hc1 hc2 hd ?_
  have he : (if 0 ≤ Int32.ofInt x then Int32.ofInt x else 0 - Int32.ofInt x) = Int32.ofInt (if 0 ≤ x then x else 0 - x) := by
    by_cases h : 0 ≤ x
    · rw [if_pos ((zge0 hx).mpr h), if_pos h]
    · rw [if_neg (fun g => h ((zge0 hx).mp g)), if_neg h, Int32.ofInt_sub]
      rfl
  rw [he]
  exact k
/-- the script: its reference is -100 -/
theorem zv_scr (E : zE) : zv E (.inr (.inr (-100))) = .ref (E.2.2.2.2.1 100) := by
  show va_rf (zrf E (-100)) = _
  unfold zrf
  rw [if_neg (by decide), if_pos (by decide)]
  rfl
theorem zr_sld {i : Int} (hd : decode d.2.1 pc = .ok (.iaload, 1)) (hp : pc + 1 = pc') (hn : E.2.2.2.2.2.1 < 2147483648) (h0 : 0 ≤ i) (h1 : i < E.2.2.2.2.2.1) (k : zA E N cu d pc' al (.inl (E.2.2.2.2.2.2 i.toNat).toInt :: st) M Q) : zA E N cu d pc al (.inl i :: .inr (.inr (-100)) :: st) M Q := by
  subst hp
  intro p e s m args below meth c H locs ls hC hH hS hl
  have k := k p e s m args below meth c H locs ls hC hH hS hl
  have hX := hC.1.2.2.2.2.2.2.2.2.2.1.2.2.2.2
  have hB := hC.1.2.2.2.2.2.2.2.2.1
  rw [List.map_cons] at k
  rw [List.map_cons, List.map_cons, zv_scr]
  refine va_sld hC.1.1 hC.1.2.1 hX.1 (by have := hX.2; omega) (A := zAs E) (fun h => absurd hX.2 (Nat.not_lt.mpr h)) hS (zin h0 h1 hn) hd ?_
  rw [zcl h0 (by omega)]
  have he : zv E (.inl (E.2.2.2.2.2.2 i.toNat).toInt) = .int (E.2.2.2.2.2.2 i.toNat) := by
    show Value.int (Int32.ofInt _) = _
    rw [Int32.ofInt_toInt]
  rw [he] at k
  exact k
theorem zr_slen (hd : decode d.2.1 pc = .ok (.arraylength, 1)) (hp : pc + 1 = pc') (k : zA E N cu d pc' al (.inl (E.2.2.2.2.2.1 : Int) :: st) M Q) : zA E N cu d pc al (.inr (.inr (-100)) :: st) M Q := by
  subst hp
  intro p e s m args below meth c H locs ls hC hH hS hl
  have k := k p e s m args below meth c H locs ls hC hH hS hl
  have hX := hC.1.2.2.2.2.2.2.2.2.2.1.2.2.2.2
  have hB := hC.1.2.2.2.2.2.2.2.2.1
  rw [List.map_cons] at k
  rw [List.map_cons, zv_scr]
  exact va_slen hC.1.1 hC.1.2.1 hX.1 (by have := hX.2; omega) (A := zAs E) (fun h => absurd hX.2 (Nat.not_lt.mpr h)) hS hd k
end zr
