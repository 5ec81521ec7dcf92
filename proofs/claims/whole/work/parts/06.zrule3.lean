/-! rules of the abstract machine: entry, returns, calls -/
/-- what a call pushes -/
def zpu (ret : Option FieldType) (r : Int) (st : List zV) : List zV := match ret with
  | none => st
  | some ty => zfV ty r :: st
theorem zgood {L : List Cond} (h : ∀ w ∈ L, w ∈ zT) : GoodIn zT L := fun w hw =>
  ⟨h w hw, good_of_word (List.mem_filter.mp (h w hw)).2⟩
theorem zcode_in {d2 : zD} (hc : Cond.code d2.1 d2.2.1 d2.2.2.1 d2.2.2.2.1 ∈ zT) : ∀ w ∈ zws d2, w ∈ zT := fun w h => by
  rcases List.mem_cons.mp h with rfl | h
  · exact hc
  · exact h
/-- from the body's start to the contract -/
theorem zC_of {E : zE} {N : zN} {d : zD} {args : List zV} {M : zM} {Q : Int → zN → zM → Prop} (hpl : plainName d.1.cls = true) (hown : d.1.cls = d.2.2.2.2.1) (hlen : (lg_sl (args.map (zv E))).length ≤ d.2.2.1) (k : zA E N (0, 0) d 0 (zargs 0 args) [] M Q) : zC E N d args M Q := by
  refine Met.ofW (cc := d.2.1) (maxL := d.2.2.1) (ret := d.2.2.2.1) (ws' := zT) hpl rfl ?_
  intro p e s m a below meth c s₁ B hml hv
  obtain ⟨rfl, hH, hK, hB, hX, hZ⟩ := hv
  have hts : ∀ w ∈ zT, w.before (args.map (zv E)).toArray s = true := fun w h => atoms_spec (ws := zws d) B.pre w (List.mem_cons_of_mem _ h)
  have hown2 : s.vm.findClass d.2.2.2.2.1 = some m.cls := by rw [← hown]; exact findClass_of_methodNamed B.named
  have hl := lv_entry (args.map (zv E)) hlen
  rw [lg_entry_eq]
  generalize (lg_sl (args.map (zv E)) ++ List.replicate (d.2.2.1 - (lg_sl (args.map (zv E))).length) Slot.unset).toArray = ls at hl ⊢
  rw [← zargs_rep] at hl
  exact k p e s m _ below meth c s.heap [] ls ⟨⟨B.exec, B.bytes, hml, hown2, hts, B.returns, B.notSynchronized, hK, hB, hX, fun h => (name_of_methodNamed B.named B.method).1.trans h⟩, hZ⟩ hH va_S.rf hl
theorem zC_Q {E : zE} {N : zN} {d : zD} {args : List zV} {M : zM} {Q Q' : Int → zN → zM → Prop} (h : ∀ r N' M', Q' r N' M' → Q r N' M') (k : zC E N d args M Q') : zC E N d args M Q := by
  intro p e ha hc hk s m a below hf happ hP hT
  obtain ⟨t, o, h1, h2, h3, ⟨r, N', M', hq, h4⟩, h5⟩ := k p e ha hc hk s m a below hf happ hP hT
  exact ⟨t, o, h1, h2, h3, ⟨r, N', M', h _ _ _ hq, h4⟩, h5⟩
section zr
variable {E : zE} {N : zN} {cu : Nat × Nat} {d : zD} {pc pc' : Nat} {al al' : List (Nat × zV)} {st : List zV} {M : zM} {Q : Int → zN → zM → Prop}
theorem zr_ireturn {x : Int} {ty : FieldType} (hd : decode d.2.1 pc = .ok (.ireturn, 1)) (hr : d.2.2.2.1 = some ty) (hv : zfV ty x = .inl x) (hok : zOk ty x) (hc : cu.1 ≤ d.2.2.2.2.2.2.1) (hs : cu.2 ≤ d.2.2.2.2.2.2.2) (hq : Q x N M) : zA E N cu d pc al [.inl x] M Q := by
  intro p e s m args below meth c H locs ls hC hH hS hl
  have hlk := hC.1.2.2.2.2.2.2.1
  have hn : narrow ty (.int (Int32.ofInt x)) = .int (Int32.ofInt x) := by
    have h1 := (zOk_rep E hok).1
    rw [← zfV_rep, hv] at h1
    exact h1
  refine W.widen hc hs ?_
  refine W.zret (ty := ty) hC.1.1 hC.1.2.1 (by rw [hC.1.2.2.2.2.2.1]; exact hr) hn (fun t ht hW => ⟨x, N, M, hq, ?_, by rw [ht]; exact hH, hS.F ht⟩) hS.2.2 hd
  unfold zro
  rw [hr]
  show _ = Outcome.returned (some (zfv E ty x))
  rw [← zfV_rep, hv]
  rfl
theorem zr_lreturn {x : Int} (hd : decode d.2.1 pc = .ok (.lreturn, 1)) (hr : d.2.2.2.1 = some .long) (hc : cu.1 ≤ d.2.2.2.2.2.2.1) (hs : cu.2 ≤ d.2.2.2.2.2.2.2) (hq : Q x N M) : zA E N cu d pc al [.inr (.inl x)] M Q := by
  intro p e s m args below meth c H locs ls hC hH hS hl
  have hlk := hC.1.2.2.2.2.2.2.1
  refine W.widen hc hs ?_
  refine W.lret hC.1.1 hC.1.2.1 (by rw [hC.1.2.2.2.2.2.1]; exact hr) (fun t ht hW => ⟨x, N, M, hq, ?_, by rw [ht]; exact hH, hS.F ht⟩) hS.2.2 hd
  unfold zro
  rw [hr]
  rfl
theorem zr_areturn {x : Int} {ty : FieldType} (hd : decode d.2.1 pc = .ok (.areturn, 1)) (hr : d.2.2.2.1 = some ty) (hty : (∃ n, ty = .object n) ∨ ∃ t, ty = .array t) (hc : cu.1 ≤ d.2.2.2.2.2.2.1) (hs : cu.2 ≤ d.2.2.2.2.2.2.2) (hq : Q x N M) : zA E N cu d pc al [.inr (.inr x)] M Q := by
  intro p e s m args below meth c H locs ls hC hH hS hl
  have hlk := hC.1.2.2.2.2.2.2.1
  refine W.widen hc hs ?_
  refine W.aret (rt := ty) hC.1.1 hC.1.2.1 (by rw [hC.1.2.2.2.2.2.1]; exact hr) hty (va_rf_or _) (fun t ht hW => ⟨x, N, M, hq, ?_, by rw [ht]; exact hH, hS.F ht⟩) hS.2.2 hd
  unfold zro
  rw [hr]
  rcases hty with ⟨n, rfl⟩ | ⟨n, rfl⟩ <;> rfl
theorem zr_return {x : Int} (hd : decode d.2.1 pc = .ok (.return_, 1)) (hr : d.2.2.2.1 = none) (hc : cu.1 ≤ d.2.2.2.2.2.2.1) (hs : cu.2 ≤ d.2.2.2.2.2.2.2) (hq : Q x N M) : zA E N cu d pc al [] M Q := by
  intro p e s m args below meth c H locs ls hC hH hS hl
  have hlk := hC.1.2.2.2.2.2.2.1
  refine W.widen hc hs ?_
  refine W.vret hC.1.1 hC.1.2.1 (by rw [hC.1.2.2.2.2.2.1]; exact hr) (fun t ht hW => ⟨x, N, M, hq, ?_, by rw [ht]; exact hH, hS.F ht⟩) hS.2.2 hd
  unfold zro
  rw [hr]
  rfl
theorem zpre_blind (E : zE) (N : zN) (M : zM) (av : List Value) : FrameBlind (va_Pc av (zPre E N M)) := fun a U g mk q => by
  obtain ⟨q0, qH, qK, qB, qX, qZ⟩ := q
  exact ⟨q0, qH, va_K.moved (u := U) (U := U.calling g mk a) (Vm.Alike.refl U.vm) qK, qB, qX.blind g mk a, qZ⟩
theorem zcat_sum (E : zE) (st : List zV) : ((st.map (zv E)).map fun v => v.category).sum = (st.map zcat).sum := by
  rw [List.map_map]
  congr 2
  funext v
  exact zv_cat E v
theorem zsize {p : Program} {l : Launch} {e : Env} {R : Room} {s : State} {m : MethodId} {a : Array Value} {below : List Frame} {meth : Method} {c : Code} {T : State} {locs : List Loc} {cells slots : Nat} (X : Stand p l e R s m a below meth c T locs cells slots) (hP : zH E N M T.heap) (hB : E.2.2.2.1 ≤ s.heap.size) (hZ : s.heap.size + cells = E.2.2.2.1 + N.1.length) : T.heap.size = E.2.2.2.1 + N.1.length := by
  have h1 : T.heap.size ≤ s.heap.size + cells := X.same.2.2.1
  have h2 : s.heap.size ≤ T.heap.size := X.same.2.1
  by_cases h0 : N.1.length = 0
  · omega
  · have hk : N.1[N.1.length - 1]? = some (N.1[N.1.length - 1]'(by omega)) := List.getElem?_eq_getElem (by omega)
    have h3 := (hP _ _ (zw_get E N M hk)).lt
    have h4 : E.2.2.2.1 + (N.1.length - 1) < T.heap.size := h3
    omega
/-- what is behind a call goes on -/
theorem zcall_go {d2 : zD} {st0 : List zV} {Q' : Int → zN → zM → Prop} {st' : Int → List zV}
    (hr : ∀ r, zpu d2.2.2.2.1 r st = st' r)
    (hN : ∀ r N' M', Q' r N' M' → N'.2.2 = true → N.2.2 = true ∧ N'.1.length = N.1.length + d2.2.2.2.2.2.2.1)
    (k : ∀ r N' M', Q' r N' M' → zA E N' (cu.1 + d2.2.2.2.2.2.2.1, cu.2 + d2.2.2.2.2.2.2.2) d (pc + 3) al (st' r) M' Q)
    {p : Program} {e : Env} {s : State} {m : MethodId} {a : Array Value} {below : List Frame} {meth : Method} {c : Code} {H : Heap} {locs : List Loc} {ls : Array Slot} {av : Array Value}
    (hC : zCx E d p s m a meth c ∧ zSz E N cu.1 s) (hS : va_S (zAs E) s.heap H locs) (hl : lv_has ls d.2.2.1 (al.map fun q => (q.1, zv E q.2)))
    (hrun : CallRun p E.1 e d.2.2.2.2.2.1 s m a below meth c H locs cu.1 cu.2 d2.2.2.2.2.2.2.1 d2.2.2.2.2.2.2.2 (F0 m pc ls (st0.map (zv E))) (st.map (zv E)) (zQc E d2 Q' av) (zAs E)) :
    W p E.1 e d.2.2.2.2.2.1 s m a below meth c H locs cu.1 cu.2 (MQ below (zQc E d Q) a s d.2.2.2.2.2.2.1 d.2.2.2.2.2.2.2 (zAs E)) (F0 m pc ls (st0.map (zv E))) := by
  intro T hT X
  obtain ⟨v, st₀, t, T', L, h0, X', hL, e1, ⟨r, N', M', hq, ho, hH, hz, hk⟩, go⟩ := hrun T hT X
  have hv : v = zro E d2.2.2.2.1 r := by cases ho; rfl
  rw [h0] at hz hk
  have hS' : va_S (zAs E) s.heap T'.heap (locs ++ L) := ⟨Nat.le_trans hS.1 (by rw [e1]; exact hz), fun q h1 h2 => by rw [e1, hk q (Nat.lt_of_lt_of_le h1 hS.1) h2]; exact hS.2.1 q h1 h2, fun q hq => by
    rcases List.mem_append.mp hq with h | h
    · exact hS.2.2 q h
    · exact hL q h⟩
  have hk2 := k r N' M' hq p e s m a below meth c T'.heap (locs ++ L) ls ⟨hC.1, fun h => by
    obtain ⟨hn1, hn2⟩ := hN r N' M' hq h
    have := hC.2 hn1
    show s.heap.size + (cu.1 + _) = _
    rw [hn2]
    omega⟩ (by rw [e1]; exact hH) hS' hl
  have hst : v.toList ++ st.map (zv E) = (st' r).map (zv E) := by
    rw [hv, ← hr r]
    unfold zro zpu
    cases d2.2.2.2.1 with
    | none => rfl
    | some ty => show zfv E ty r :: _ = zv E (zfV ty r) :: _; rw [zfV_rep]; rfl
  obtain ⟨t2, a1, b1⟩ := hk2 T' rfl X'
  refine ⟨t2, go t2 ?_, b1⟩
  rw [hst]
  exact a1
/-- the words of a call of a method of an object -/
def zCv (own : String) (idx : Nat) (d2 : zD) (ci n : Nat) : Prop := ∃ (C : String) (T : u_T) (Nf : Nat), vwCl[ci]? = some (C, T, Nf) ∧ ci < 100 ∧ d2.1.cls = C ∧ Cond.methodLink own idx d2.1 ∈ zT ∧ Cond.instanceMethod d2.1 ∈ zT ∧ Cond.selects C d2.1 d2.1 ∈ zT ∧ Cond.initialized C ∈ zT ∧ Cond.code d2.1 d2.2.1 d2.2.2.1 d2.2.2.2.1 ∈ zT ∧ d2.1.cls ≠ "java/lang/invoke/MethodHandle" ∧ d2.1.cls ≠ "java/lang/invoke/VarHandle" ∧ (parseMethodDescriptor d2.1.desc).map (fun d => d.parameters.length) = some n
/-- a callee's room among the caller's -/
def zRm (d d2 : zD) : Prop := d2.2.2.2.2.2.1.cells = d2.2.2.2.2.2.2.1 ∧ d2.2.2.2.2.2.1.slots = d2.2.2.2.2.2.2.2 ∧ d2.2.2.2.2.2.1.frames + 1 ≤ d.2.2.2.2.2.1.frames ∧ 8 + (d2.2.2.1 + 11) + d2.2.2.2.2.2.1.locals ≤ d.2.2.2.2.2.1.locals
theorem zr_callV {d2 : zD} {idx ci n kn : Nat} {b : Int} {args st0 : List zV} {Q' : Int → zN → zM → Prop} {st' : Int → List zV} (hd : decode d.2.1 pc = .ok (.invokevirtual idx, 3)) (hp : pc + 3 = pc') (hw : zCv d.2.2.2.2.1 idx d2 ci n) (hR : zRm d d2) (hb : 0 ≤ b) (hk : N.1[b.toNat]? = some (ci, kn)) (hn : args.length = n) (hst : args.reverse ++ .inr (.inr b) :: st = st0) (h8 : (st.map zcat).sum ≤ 8) (hcu : cu.1 + d2.2.2.2.2.2.2.1 ≤ d.2.2.2.2.2.1.cells ∧ cu.2 + d2.2.2.2.2.2.2.2 ≤ d.2.2.2.2.2.1.slots) (hr : ∀ r, zpu d2.2.2.2.1 r st = st' r)
    (hN : ∀ r N' M', Q' r N' M' → N'.2.2 = true → N.2.2 = true ∧ N'.1.length = N.1.length + d2.2.2.2.2.2.2.1)
    (hM : zC E N d2 (.inr (.inr b) :: args) M Q') (k : ∀ r N' M', Q' r N' M' → zA E N' (cu.1 + d2.2.2.2.2.2.2.1, cu.2 + d2.2.2.2.2.2.2.2) d pc' al (st' r) M' Q) : zA E N cu d pc al st0 M Q := by
  subst hp hst
  intro p e s m a below meth c H locs ls hC hH hS hl T0 hT0 X0
  have hsz : N.2.2 = true → H.size = E.2.2.2.1 + N.1.length := fun h => by
    rw [← hT0]
    exact zsize X0 (by rw [hT0]; exact hH) hC.1.2.2.2.2.2.2.2.2.1 (hC.2 h)
  obtain ⟨C, T, Nf, h1, h3, hcls, w1, w2, w3, w4, w5, w6, w7, w8⟩ := hw
  have cw : CallW d.2.2.2.2.2.1 s a d.2.2.2.2.1 C idx d2.1 d2.2.1 d2.2.2.1 d2.2.2.2.1 (zws d2) d2.2.2.2.2.2.1 d2.2.2.2.2.2.2.1 d2.2.2.2.2.2.2.2 n := by
    refine cwV (ws' := zT) n hC.1.2.2.2.2.1 (zgood (fun w h => ?_)) rfl hR.1 hR.2.1 ⟨hcls, w6, w7, w8⟩ ⟨hR.2.2.1, hR.2.2.2⟩
    unfold wsV at h
    rcases List.mem_append.mp h with h | h
    · simp only [List.mem_cons, List.not_mem_nil, or_false] at h
      rcases h with rfl | rfl | rfl | rfl
      · exact w1
      · exact w2
      · exact w3
      · exact w4
    · exact zcode_in w5 w h
  have hwk := zw_get E N M hk
  rw [zent_ob E N M _ h3] at hwk
  have hK := hC.1.2.2.2.2.2.2.2.1
  refine zcall_go (d2 := d2) hr hN k hC hS hl (W.runV (b := E.2.2.2.1 + b.toNat) (As := args.map (zv E)) (rest := st.map (zv E)) ⟨hC.1.1, hC.1.2.1, hC.1.2.2.1, hC.1.2.2.2.1, hC.1.2.2.2.2.1⟩ hM cw ⟨zpre_blind E N M _, va_recv hK hH (ci := ci) (q0 := b.toNat) h1 hwk, fun U hU hW => ⟨?_, by rw [hU]; exact hH, va_K.moved hW.alike hK, by rw [hU]; exact Nat.le_trans hC.1.2.2.2.2.2.2.2.2.1 hS.1, hC.1.2.2.2.2.2.2.2.2.2.1.pass hW hU hS hC.1.2.2.2.2.2.2.2.2.1, ?_⟩⟩ rfl (by rw [List.length_map]; exact hn) hl.1 ?_ ?_ hd hcu) T0 hT0 X0
  · rw [List.map_cons, zv_ref E hb]
  · intro h
    rw [hU]
    exact hsz h
  · rw [List.map_append, List.map_cons, List.map_reverse, zv_ref E hb]
  · refine lv_room ?_
    rw [zcat_sum]
    exact h8
/-- the words of a call of a static method -/
def zCs (own : String) (idx : Nat) (d2 : zD) (n : Nat) : Prop := Cond.methodLink own idx d2.1 ∈ zT ∧ Cond.static d2.1 ∈ zT ∧ Cond.initialized d2.1.cls ∈ zT ∧ Cond.code d2.1 d2.2.1 d2.2.2.1 d2.2.2.2.1 ∈ zT ∧ d2.1.cls ≠ "java/lang/invoke/MethodHandle" ∧ d2.1.cls ≠ "java/lang/invoke/VarHandle" ∧ (parseMethodDescriptor d2.1.desc).map (fun d => d.parameters.length) = some n
theorem zr_callS {d2 : zD} {idx n : Nat} {args st0 : List zV} {Q' : Int → zN → zM → Prop} {st' : Int → List zV} (hd : decode d.2.1 pc = .ok (.invokestatic idx, 3)) (hp : pc + 3 = pc') (hw : zCs d.2.2.2.2.1 idx d2 n) (hR : zRm d d2) (hn : args.length = n) (hst : args.reverse ++ st = st0) (h8 : (st.map zcat).sum ≤ 8) (hcu : cu.1 + d2.2.2.2.2.2.2.1 ≤ d.2.2.2.2.2.1.cells ∧ cu.2 + d2.2.2.2.2.2.2.2 ≤ d.2.2.2.2.2.1.slots) (hr : ∀ r, zpu d2.2.2.2.1 r st = st' r)
    (hN : ∀ r N' M', Q' r N' M' → N'.2.2 = true → N.2.2 = true ∧ N'.1.length = N.1.length + d2.2.2.2.2.2.2.1)
    (hM : zC E N d2 args M Q') (k : ∀ r N' M', Q' r N' M' → zA E N' (cu.1 + d2.2.2.2.2.2.2.1, cu.2 + d2.2.2.2.2.2.2.2) d pc' al (st' r) M' Q) : zA E N cu d pc al st0 M Q := by
  subst hp hst
  intro p e s m a below meth c H locs ls hC hH hS hl T0 hT0 X0
  have hsz : N.2.2 = true → H.size = E.2.2.2.1 + N.1.length := fun h => by
    rw [← hT0]
    exact zsize X0 (by rw [hT0]; exact hH) hC.1.2.2.2.2.2.2.2.2.1 (hC.2 h)
  obtain ⟨w1, w2, w4, w5, w6, w7, w8⟩ := hw
  have hts := hC.1.2.2.2.2.1
  have cw : CallB d.2.2.2.2.2.1 s a d.2.2.2.2.1 idx d2.1 d2.2.1 d2.2.2.1 d2.2.2.2.1 (zws d2) d2.2.2.2.2.2.1 d2.2.2.2.2.2.2.1 d2.2.2.2.2.2.2.2 n ∧ (Cond.static d2.1).before a s = true :=
    ⟨callB_of (ws' := zT) n hts (zgood (zcode_in w5)) rfl hR.1 hR.2.1 (hts _ w4) (hts _ w1) ⟨w6, w7, w8⟩ ⟨hR.2.2.1, hR.2.2.2⟩, hts _ w2⟩
  have hK := hC.1.2.2.2.2.2.2.2.1
  refine zcall_go (d2 := d2) hr hN k hC hS hl (W.runS (As := args.map (zv E)) (rest := st.map (zv E)) ⟨hC.1.1, hC.1.2.1, hC.1.2.2.1, hC.1.2.2.2.1, hC.1.2.2.2.2.1⟩ hM cw ⟨zpre_blind E N M _, fun U hU hW => ⟨rfl, by rw [hU]; exact hH, va_K.moved hW.alike hK, by rw [hU]; exact Nat.le_trans hC.1.2.2.2.2.2.2.2.2.1 hS.1, hC.1.2.2.2.2.2.2.2.2.2.1.pass hW hU hS hC.1.2.2.2.2.2.2.2.2.1, ?_⟩⟩ rfl (by rw [List.length_map]; exact hn) hl.1 ?_ ?_ hd hcu) T0 hT0 X0
  · intro h
    rw [hU]
    exact hsz h
  · rw [List.map_append, List.map_reverse]
  · refine lv_room ?_
    rw [zcat_sum]
    exact h8
end zr
