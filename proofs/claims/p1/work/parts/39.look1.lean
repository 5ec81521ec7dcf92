/-! a body that may throw, or that catches: the same rules with another end -/
section zx
variable {E : zE} {N : zN} {cu : Nat × Nat} {d : zD} {pc pc' : Nat} {al al' : List (Nat × zV)} {st : List zV} {M : zM}
variable {p : Program} {e : Env} {s : State} {m : MethodId} {ar : Array Value} {below : List Frame} {meth : Method} {c : Code} {PQ : State → Prop}
def zB (p : Program) (e : Env) (s : State) (m : MethodId) (ar : Array Value) (below : List Frame) (meth : Method) (c : Code) (PQ : State → Prop) (E : zE) (N : zN) (cu : Nat × Nat) (d : zD) (pc : Nat) (al : List (Nat × zV)) (st : List zV) (M : zM) : Prop :=
  ∀ (H : Heap) (locs : List Loc) (ls : Array Slot), zCx E d p s m ar meth c ∧ zSz E N cu.1 s → zH E N M H → va_S (zAs E) s.heap H locs → lv_has ls d.2.2.1 (al.map fun q => (q.1, zv E q.2)) →
    W p E.1 e d.2.2.2.2.2.1 s m ar below meth c H locs cu.1 cu.2 PQ (F0 m pc ls (st.map (zv E)))
theorem zB_A {Q : Int → zN → zM → Prop} {mc ms : Nat} {XC : String → State → State → Prop} (hm : mc = d.2.2.2.2.2.2.1) (hs : ms = d.2.2.2.2.2.2.2) (k : zA E N cu d pc al st M Q) : zB p e s m ar below meth c (vx_MQ below (zQc E d Q) XC ar s mc ms (zAs E)) E N cu d pc al st M := by
  subst hm hs
  intro H locs ls h1 h2 h3 h4
  exact vx_ret (k p e s m ar below meth c H locs ls h1 h2 h3 h4)
theorem zx_iconst {n : Int} (hd : decode d.2.1 pc = .ok (.iconst n, 1)) (hp : pc + 1 = pc') (k : zB p e s m ar below meth c PQ E N cu d pc' al (.inl n :: st) M) : zB p e s m ar below meth c PQ E N cu d pc al st M := by
  subst hp
  intro H locs ls hC hH hS hl
  exact lv_iconst hC.1.1 hC.1.2.1 hd rfl (k H locs ls hC hH hS hl)
theorem zx_iload_n {f : Fin 4} {i : Nat} {x : Int} (hd : decode d.2.1 pc = .ok (.iload_n f, 1)) (hp : pc + 1 = pc') (hi : (f : Nat) = i) (hk : zlk al i = some (.inl x)) (k : zB p e s m ar below meth c PQ E N cu d pc' al (.inl x :: st) M) : zB p e s m ar below meth c PQ E N cu d pc al st M := by
  subst hp
  intro H locs ls hC hH hS hl
  exact lv_iload_n hC.1.1 hC.1.2.1 hd hi (zhas_at hl hk) (k H locs ls hC hH hS hl)
theorem zx_aload_n {f : Fin 4} {i : Nat} {x : Int} (hd : decode d.2.1 pc = .ok (.aload_n f, 1)) (hp : pc + 1 = pc') (hi : (f : Nat) = i) (hk : zlk al i = some (.inr (.inr x))) (k : zB p e s m ar below meth c PQ E N cu d pc' al (.inr (.inr x) :: st) M) : zB p e s m ar below meth c PQ E N cu d pc al st M := by
  subst hp
  intro H locs ls hC hH hS hl
  have k := k H locs ls hC hH hS hl
  have h1 := zhas_at hl hk
  simp only [List.map_cons, zv] at k h1
  cases hr : zrf E x with
  | none => rw [hr] at k h1; exact lv_aload_nN hC.1.1 hC.1.2.1 hd hi h1 k
  | some a => rw [hr] at k h1; exact lv_aload_n hC.1.1 hC.1.2.1 hd hi h1 k
theorem zx_if_ne {x off : Int} {tgt : Nat} (hd : decode d.2.1 pc = .ok (.ifCond .ne off, 3)) (ht : (pc : Int) + off = (tgt : Int)) (hp : pc + 3 = pc') (hx : zR x) (kt : ¬ x = 0 → zB p e s m ar below meth c PQ E N cu d tgt al st M) (kf : x = 0 → zB p e s m ar below meth c PQ E N cu d pc' al st M) : zB p e s m ar below meth c PQ E N cu d pc al (.inl x :: st) M := by
  subst hp
  intro H locs ls hC hH hS hl
  exact lv_if_ne hC.1.1 hC.1.2.1 hd ht (fun h => kt (fun g => h ((zeq0 hx).mpr g)) H locs ls hC hH hS hl) (fun h => kf ((zeq0 hx).mp h) H locs ls hC hH hS hl)
theorem zx_tableOut {dflt lo hi : Int} {offs : Array Int} {len : Nat} {x : Int} {tgt : Nat} (hd : decode d.2.1 pc = .ok (.tableswitch dflt lo hi offs, len)) (hx : zR x) (h : x < lo ∨ hi < x) (ht : (pc : Int) + dflt = (tgt : Int)) (k : zB p e s m ar below meth c PQ E N cu d tgt al st M) : zB p e s m ar below meth c PQ E N cu d pc al (.inl x :: st) M := by
  intro H locs ls hC hH hS hl
  exact lv_tableOut hC.1.1 hC.1.2.1 hd (by rw [zI hx]; exact h) ht (k H locs ls hC hH hS hl)
theorem zx_tableIn {dflt lo hi : Int} {offs : Array Int} {len : Nat} {x off : Int} {tgt : Nat} (hd : decode d.2.1 pc = .ok (.tableswitch dflt lo hi offs, len)) (hx : zR x) (h1 : lo ≤ x) (h2 : x ≤ hi) (ho : offs[(x - lo).toNat]? = some off) (ht : (pc : Int) + off = (tgt : Int)) (k : zB p e s m ar below meth c PQ E N cu d tgt al st M) : zB p e s m ar below meth c PQ E N cu d pc al (.inl x :: st) M := by
  intro H locs ls hC hH hS hl
  exact lv_tableIn hC.1.1 hC.1.2.1 hd (by rw [zI hx]; omega) (by rw [zI hx]; omega) (by rw [zI hx]; exact ho) ht (k H locs ls hC hH hS hl)
theorem zx_get {a : Int} {idx ci j n : Nat} {v : zV} (hd : decode d.2.1 pc = .ok (.getfield idx, 3)) (hp : pc + 3 = pc') (ha : 0 ≤ a) (hk : N.1[a.toNat]? = some (ci, n)) (hF : zFl d.2.2.2.2.1 idx ci j) (hc : zKc ci) (hv : zfV (zty ci j) (zg N M a.toNat j) = v) (k : zB p e s m ar below meth c PQ E N cu d pc' al (v :: st) M) : zB p e s m ar below meth c PQ E N cu d pc al (.inr (.inr a) :: st) M := by
  subst hp hv
  intro H locs ls hC hH hS hl
  have k := k H locs ls hC hH hS hl
  obtain ⟨C, T, Nf, h1, hj, hm, h3, h4, h5, h6, h7, -, -⟩ := zfl_has hF hc
  have hw := zw_get E N M hk
  rw [zent_ob E N M _ h3] at hw
  rw [List.map_cons, zfV_rep] at k
  rw [List.map_cons, zv_ref E ha]
  refine va_get (ws := zw E N M) hC.1.1 hC.1.2.1 hC.1.2.2.2.2.1 h5 hC.1.2.2.2.1 hC.1.2.2.2.2.2.2.2.1 hH a.toNat hw h1 j hj (hC.1.2.2.2.2.1 _ hm) (fun _ h9 => h9) ?_ hd k
  rw [List.getElem?_map, List.getElem?_range (by rw [h4]; exact hj)]
  rfl
theorem zx_go {d2 : zD} {st0 : List zV} {Q' : Int → zN → zM → Prop} {st' : Int → List zV}
    (hr : ∀ r, zpu d2.2.2.2.1 r st = st' r)
    (hN : ∀ r N' M', Q' r N' M' → N'.2.2 = true → N.2.2 = true ∧ N'.1.length = N.1.length + d2.2.2.2.2.2.2.1)
    (k : ∀ r N' M', Q' r N' M' → zB p e s m ar below meth c PQ E N' (cu.1 + d2.2.2.2.2.2.2.1, cu.2 + d2.2.2.2.2.2.2.2) d (pc + 3) al (st' r) M')
    {H : Heap} {locs : List Loc} {ls : Array Slot} {av : Array Value}
    (hC : zCx E d p s m ar meth c ∧ zSz E N cu.1 s) (hS : va_S (zAs E) s.heap H locs) (hl : lv_has ls d.2.2.1 (al.map fun q => (q.1, zv E q.2)))
    (hrun : CallRun p E.1 e d.2.2.2.2.2.1 s m ar below meth c H locs cu.1 cu.2 d2.2.2.2.2.2.2.1 d2.2.2.2.2.2.2.2 (F0 m pc ls (st0.map (zv E))) (st.map (zv E)) (zQc E d2 Q' av) (zAs E)) :
    W p E.1 e d.2.2.2.2.2.1 s m ar below meth c H locs cu.1 cu.2 PQ (F0 m pc ls (st0.map (zv E))) := by
  intro T hT X
  obtain ⟨v, st₀, t, T', L, h0, X', hL, e1, ⟨r, N', M', hq, ho, hH, hz, hk⟩, go⟩ := hrun T hT X
  have hv : v = zro E d2.2.2.2.1 r := by cases ho; rfl
  rw [h0] at hz hk
  have hS' : va_S (zAs E) s.heap T'.heap (locs ++ L) := ⟨Nat.le_trans hS.1 (by rw [e1]; exact hz), fun q h1 h2 => by rw [e1, hk q (Nat.lt_of_lt_of_le h1 hS.1) h2]; exact hS.2.1 q h1 h2, fun q hq => by
    rcases List.mem_append.mp hq with h | h
    · exact hS.2.2 q h
    · exact hL q h⟩
  have hk2 := k r N' M' hq T'.heap (locs ++ L) ls ⟨hC.1, fun h => by
    obtain ⟨hn1, hn2⟩ := hN r N' M' hq h
    have := hC.2 hn1
    show s.heap.size + (cu.1 + _) = _
    rw [hn2]
    omega⟩ (by rw [e1]; exact hH) hS' hl
  have hst : v.toList ++ st.map (zv E) = (st' r).map (zv E) := by
    rw [hv, ← hr r]
    unfold zro zpu
    cases d2.2.2.2.1 with
    | none => rfl
    | some ty => show zfv E ty r :: _ = zv E (zfV ty r) :: _; rw [zfV_rep]; rfl
  obtain ⟨t2, a1, b1⟩ := hk2 T' rfl X'
  refine ⟨t2, go t2 ?_, b1⟩
  rw [hst]
  exact a1
theorem zx_callV {d2 : zD} {idx ci n kn : Nat} {b : Int} {args st0 : List zV} {Q' : Int → zN → zM → Prop} {st' : Int → List zV} (hd : decode d.2.1 pc = .ok (.invokevirtual idx, 3)) (hp : pc + 3 = pc') (hw : zCv d.2.2.2.2.1 idx d2 ci n) (hR : zRm d d2) (hb : 0 ≤ b) (hk : N.1[b.toNat]? = some (ci, kn)) (hn : args.length = n) (hst : args.reverse ++ .inr (.inr b) :: st = st0) (h8 : (st.map zcat).sum ≤ 8) (hcu : cu.1 + d2.2.2.2.2.2.2.1 ≤ d.2.2.2.2.2.1.cells ∧ cu.2 + d2.2.2.2.2.2.2.2 ≤ d.2.2.2.2.2.1.slots) (hr : ∀ r, zpu d2.2.2.2.1 r st = st' r)
    (hN : ∀ r N' M', Q' r N' M' → N'.2.2 = true → N.2.2 = true ∧ N'.1.length = N.1.length + d2.2.2.2.2.2.2.1)
    (hM : zC E N d2 (.inr (.inr b) :: args) M Q') (k : ∀ r N' M', Q' r N' M' → zB p e s m ar below meth c PQ E N' (cu.1 + d2.2.2.2.2.2.2.1, cu.2 + d2.2.2.2.2.2.2.2) d pc' al (st' r) M') : zB p e s m ar below meth c PQ E N cu d pc al st0 M := by
  subst hp hst
  intro H locs ls hC hH hS hl T0 hT0 X0
  have hsz : N.2.2 = true → H.size = E.2.2.2.1 + N.1.length := fun h => by
    rw [← hT0]
    exact zsize X0 (by rw [hT0]; exact hH) hC.1.2.2.2.2.2.2.2.2.1 (hC.2 h)
  obtain ⟨C, T, Nf, h1, h3, hcls, w1, w2, w3, w4, w5, w6, w7, w8⟩ := hw
  have cw : CallW d.2.2.2.2.2.1 s ar d.2.2.2.2.1 C idx d2.1 d2.2.1 d2.2.2.1 d2.2.2.2.1 (zws d2) d2.2.2.2.2.2.1 d2.2.2.2.2.2.2.1 d2.2.2.2.2.2.2.2 n := by
    refine cwV (ws' := zT) n hC.1.2.2.2.2.1 (zgood (fun w h => ?_)) rfl hR.1 hR.2.1 ⟨hcls, w6, w7, w8⟩ ⟨hR.2.2.1, hR.2.2.2⟩
    unfold wsV at h
    rcases List.mem_append.mp h with h | h
    · simp only [List.mem_cons, List.not_mem_nil, or_false] at h
      rcases h with rfl | rfl | rfl | rfl
      · exact w1
      · exact w2
      · exact w3
      · exact w4
    · exact zcode_in w5 w h
  have hwk := zw_get E N M hk
  rw [zent_ob E N M _ h3] at hwk
  have hK := hC.1.2.2.2.2.2.2.2.1
  refine zx_go (d2 := d2) hr hN k hC hS hl (W.runV (b := E.2.2.2.1 + b.toNat) (As := args.map (zv E)) (rest := st.map (zv E)) ⟨hC.1.1, hC.1.2.1, hC.1.2.2.1, hC.1.2.2.2.1, hC.1.2.2.2.2.1⟩ hM cw ⟨zpre_blind E N M _, va_recv hK hH (ci := ci) (q0 := b.toNat) h1 hwk, fun U hU hW => ⟨?_, by rw [hU]; exact hH, va_K.moved hW.alike hK, by rw [hU]; exact Nat.le_trans hC.1.2.2.2.2.2.2.2.2.1 hS.1, hC.1.2.2.2.2.2.2.2.2.2.1.pass hW hU hS hC.1.2.2.2.2.2.2.2.2.1, ?_⟩⟩ rfl (by rw [List.length_map]; exact hn) hl.1 ?_ ?_ hd hcu) T0 hT0 X0
  · rw [List.map_cons, zv_ref E hb]
  · intro h
    rw [hU]
    exact hsz h
  · rw [List.map_append, List.map_cons, List.map_reverse, zv_ref E hb]
  · refine lv_room ?_
    rw [zcat_sum]
    exact h8
theorem zx_nv {d2 : zD} {idx ci n kn : Nat} {b : Int} {args st0 : List zV} {Q' : Int → zM → Prop} {st' : Int → List zV} (hd : decode d.2.1 pc = .ok (.invokevirtual idx, 3)) (hp : pc + 3 = pc') (hw : zCv d.2.2.2.2.1 idx d2 ci n) (hR : zRm d d2) (hm : d2.2.2.2.2.2.2 = (0, 0)) (hb : 0 ≤ b) (hk : zNN.1[b.toNat]? = some (ci, kn)) (hn : args.length = n) (hst : args.reverse ++ .inr (.inr b) :: st = st0) (h8 : (st.map zcat).sum ≤ 8) (hr : ∀ r, zpu d2.2.2.2.1 r st = st' r)
    (hM : zP E d2 (.inr (.inr b) :: args) M Q') (k : ∀ r M', Q' r M' → zB p e s m ar below meth c PQ E zNN (0, 0) d pc' al (st' r) M') : zB p e s m ar below meth c PQ E zNN (0, 0) d pc al st0 M := by
  refine zx_callV hd hp hw hR hb hk hn hst h8 ⟨?_, ?_⟩ hr (fun r N' M' h h2 => ?_) hM (fun r N' M' h => ?_)
  · rw [hm]; exact Nat.zero_le _
  · rw [hm]; exact Nat.zero_le _
  · rw [h.1] at h2; cases h2
  · obtain ⟨rfl, h⟩ := h
    rw [hm]
    exact k r M' h
/-- what holds where a method has thrown -/
def zXC (E : zE) (XQ : String → zM → Prop) : String → State → State → Prop := fun C st t => ∃ M' : zM, XQ C M' ∧ zH E zNN M' t.heap ∧ va_F (zAs E) st t
def zCX (E : zE) (d : zD) (args : List zV) (M : zM) (Q : Int → zM → Prop) (XQ : String → zM → Prop) : Prop :=
  vx_Met E.1 d.1 (zws d) d.2.2.2.2.2.1 (va_Pc (args.map (zv E)) (zPre E zNN M)) (zQc E d (zQ Q)) (zXC E XQ) d.2.2.2.2.2.2.1 d.2.2.2.2.2.2.2 (zAs E)
theorem zCX_of {args : List zV} {Q : Int → zM → Prop} {XQ : String → zM → Prop} (hpl : plainName d.1.cls = true) (hown : d.1.cls = d.2.2.2.2.1) (hlen : (args.map zcat).sum ≤ d.2.2.1)
    (k : ∀ (p : Program) (e : Env) (s : State) (m : MethodId) (ar : Array Value) (below : List Frame) (meth : Method) (c : Code), (∀ x ∈ c.exceptionTable.toList, False) → zB p e s m ar below meth c (vx_MQ below (zQc E d (zQ Q)) (zXC E XQ) ar s d.2.2.2.2.2.2.1 d.2.2.2.2.2.2.2 (zAs E)) E zNN (0, 0) d 0 (zargs 0 args) [] M) : zCX E d args M Q XQ := by
  refine vx_ofW (cc := d.2.1) (maxL := d.2.2.1) (ret := d.2.2.2.1) (ws' := zT) hpl rfl ?_
  intro p e s m a below meth c s₁ B hml ht hv
  obtain ⟨rfl, hH, hK, hB, hX, hZ⟩ := hv
  have hts : ∀ w ∈ zT, w.before (args.map (zv E)).toArray s = true := fun w h => atoms_spec (ws := zws d) B.pre w (List.mem_cons_of_mem _ h)
  have hown2 : s.vm.findClass d.2.2.2.2.1 = some m.cls := by rw [← hown]; exact findClass_of_methodNamed B.named
  have hl := lv_entry (args.map (zv E)) (by rw [lg_zl]; exact hlen)
  rw [lg_entry_eq]
  generalize (lg_sl (args.map (zv E)) ++ List.replicate (d.2.2.1 - (lg_sl (args.map (zv E))).length) Slot.unset).toArray = ls at hl ⊢
  rw [← zargs_rep] at hl
  exact k p e s m _ below meth c ht s.heap [] ls ⟨⟨B.exec, B.bytes, hml, hown2, hts, B.returns, B.notSynchronized, hK, hB, hX, fun h => (name_of_methodNamed B.named B.method).1.trans h⟩, hZ⟩ hH va_S.rf hl
theorem zH_kept {H H1 : Heap} (h : zH E N M H) (hq : ∀ q : Nat, q < H.size → H1[q]? = H[q]?) : zH E N M H1 := va_P.kept h (fun k q hk => hq _ (h k q hk).lt)
/-- the words of a throw, the constructor's own call by the index ix -/
def zOwn (own : String) (ic : Nat) (X : String) (ix : Nat) (rx : ByteArray) : List Cond :=
  Bundle.throwableAtoms ++ Bundle.throwableSAtoms ++ (Bundle.passSAtoms X "java/lang/RuntimeException" ix rx ++ Bundle.chainSAtoms "java/lang/RuntimeException" ["java/lang/Exception"]) ++
  [.methodLink own ic (Bundle.initS X), .instantiable X 6, .castable X X, .selects X Bundle.tFill0 Bundle.tFill0, .selects X Bundle.tFill Bundle.tFill,
   .lays X Bundle.tN "cause" "Ljava/lang/Throwable;", .lays X Bundle.tN "stackTrace" Bundle.steD, .lays X Bundle.tN "suppressedExceptions" Bundle.listD, .lays X Bundle.tN "detailMessage" "Ljava/lang/String;",
   .isRef (.static Bundle.tN "UNASSIGNED_STACK" Bundle.steD), .isRef (.static Bundle.tN "SUPPRESSED_SENTINEL" Bundle.listD),
   .fieldLink Bundle.tN 198 Bundle.tN "backtrace" "Ljava/lang/Object;", .lays Bundle.tN Bundle.tN "backtrace" "Ljava/lang/Object;", .lays X Bundle.tN "backtrace" "Ljava/lang/Object;"]
section zc
variable {p : Program} {l : Launch} {e : Env} {R : Room} {s : State} {m₀ : MethodId} {args : Array Value} {below : List Frame} {meth : Method} {c : Code} {W0 : State} {locs : List Loc} {cells slots : Nat}
set_option maxHeartbeats 2000000 in
/-- after the library's ctorThrowS, the constructor's first step by another index -/
theorem zx_ctorS (X : Stand p l e R s m₀ args below meth c W0 locs cells slots) (hexec : p.tables.exec = Jvm.exec) (htr : e.platform.stackTraces = false) {own cls : String} {ic ix : Nat} {rx : ByteArray}
    (x0 : decode rx 0 = .ok (.aload_n 0, 1)) (x1 : decode rx 1 = .ok (.aload_n 1, 1)) (x2 : decode rx 2 = .ok (.invokespecial ix, 3)) (x5 : decode rx 5 = .ok (.return_, 1))
    (hown : s.vm.findClass own = some m₀.cls) (hcls : Bundle.fit cls = true)
    (h : ∀ a ∈ zOwn own ic cls ix rx, a.before args s = true)
    (hlocs : ∀ x ∈ locs, ∀ cell, s.heap[x.base]? = some cell → cell.vm.isStatics = false)
    {a : Addr} {cX : ClassId} {kX : Class} (hfoundX : s.vm.findClass cls = some cX) (hkX : s.vm.classes[cX]? = some kX) (hcell : W0.heap[a]? = some (freshCell cX kX)) (hnew : s.heap.size ≤ a)
    {msg : Value} (hmsg : msg.isRef = true)
    {g : JFrame} (hg : g.method = m₀) (hsize : g.locals.size = c.maxLocals) (hlocked : g.locked = none) (hentered : g.entered = []) {rest : List Value} (hstack : g.stack = msg :: .ref a :: .ref a :: rest)
    (hd6 : decode c.code g.pc = .ok (.invokespecial ic, 3)) (hd9 : decode c.code (g.pc + 3) = .ok (.athrow, 1)) (hout : ∀ x ∈ c.exceptionTable.toList, covers x (g.pc + 3) = false)
    (hRframes : 5 < R.frames) (hRlocals : 2 * g.monitorRoom + ((Value.ref a :: rest).map fun v => v.category).sum + 81 ≤ R.locals) (hlocks : meth.locks = false) :
    ∃ U : State, Steps p.tables e below (W0.setTop g) U ∧ U.status = .running ∧ Ended U below (.threw a) ∧ s.WarmedH U.vm ∧ s.sameButNew ({ U with vm := s.vm } : State) locs cells slots ∧
      ∃ ce, U.heap[a]? = some ce ∧ ce.vm = .none ∧ s.vm.findClass cls = some ce.cls := by
  have howns : e.platform.frameOwnsMonitors = true := by rw [X.admits.platform]
  have hfin : e.platform.finalization = false := by rw [X.admits.platform]
  have hpl : e.platform.magicAccessors = ({} : Platform).magicAccessors := by rw [X.admits.platform]
  have a' : ∀ x, x ∈ zOwn own ic cls ix rx → x.holds args s none s [] = true := fun x hx => h x hx
  obtain ⟨T, Z0, L, -, Y⟩ := ThrowableC.of_atoms (args := args) howns hfin hpl (fun x hx => h x (by simp [zOwn, hx]))
  obtain ⟨Z, M, LZ, LM, hnZ⟩ := Init0T.ofS_atoms (args := args) hpl L Y (fun x hx => h x (by simp [zOwn, hx]))
  obtain ⟨P1, L1, hP1m, hs1⟩ := PassC.ofS_atoms (args := args) (s := s) hpl (X := cls) (Y := "java/lang/RuntimeException") (Bundle.fit_spec hcls).1 (by decide) x0 x1 x2 x5 (fun x hx => h x (by simp [zOwn, hx]))
  obtain ⟨P2, Pr, hlen2, L2, hL2, hP2m, hlink2, hlink3⟩ := Bundle.chainS (args := args) hpl hnZ ["java/lang/Exception"] "java/lang/RuntimeException" (by decide) (by decide) (fun x hx => h x (by simp [zOwn, hx]))
  have hfound : s.vm.findClass cls = some P1.m.cls := findClass_of_methodNamed hP1m
  cases Option.some.inj (hfoundX.symm.trans hfound)
  obtain ⟨c1, kX', hc1, hk, hord, -, -, hn6⟩ := Cond.instantiable_spec (a' (.instantiable cls 6) (by simp [zOwn]))
  cases Option.some.inj (hc1.symm.trans hfound)
  cases Option.some.inj (hkX.symm.trans hk)
  have hsel0 : selectMethod e.platform s.vm P1.m.cls T.fill0 = .method T.fill0 := by
    obtain ⟨c2, r2, m2, q1, q2, q3, q4, -⟩ := Cond.selects_spec (a' (.selects cls Bundle.tFill0 Bundle.tFill0) (by simp [zOwn]))
    cases Option.some.inj (q1.symm.trans hfound)
    cases Option.some.inj (q2.symm.trans (State.methodFound?_of_named Y.fill0 (by decide)))
    cases Option.some.inj (q3.symm.trans Y.fill0)
    rw [Launch.admits_selectMethod X.admits]; exact q4
  have hselF : selectMethod e.platform s.vm P1.m.cls T.fill = .method T.fill := by
    obtain ⟨c2, r2, m2, q1, q2, q3, q4, -⟩ := Cond.selects_spec (a' (.selects cls Bundle.tFill Bundle.tFill) (by simp [zOwn]))
    cases Option.some.inj (q1.symm.trans hfound)
    cases Option.some.inj (q2.symm.trans (State.methodFound?_of_named Y.fill (by decide)))
    cases Option.some.inj (q3.symm.trans Y.fill)
    rw [Launch.admits_selectMethod X.admits]; exact q4
  obtain ⟨cellS0, hcS0, hiss⟩ := Y.statics
  obtain ⟨u0, hu0⟩ := Cond.staticRefV Y.unassigned L.unassignedStatic L.statics hcS0 hiss (a' (.isRef (.static Bundle.tN "UNASSIGNED_STACK" Bundle.steD)) (by simp [zOwn]))
  obtain ⟨sen, hsen⟩ := Cond.staticRefV Y.sentinel L.sentinelStatic L.statics hcS0 hiss (a' (.isRef (.static Bundle.tN "SUPPRESSED_SENTINEL" Bundle.listD)) (by simp [zOwn]))
  obtain ⟨ci198, i198, fB, hk198, hg198, ha198, hsB, -, hnB, htB, hffB⟩ := Cond.ownField (t := .object "java/lang/Object") Y.found L.cls (by decide +kernel) (a' (.fieldLink Bundle.tN 198 Bundle.tN "backtrace" "Ljava/lang/Object;") (by simp [zOwn])) (a' (.lays Bundle.tN Bundle.tN "backtrace" "Ljava/lang/Object;") (by simp [zOwn])) e.platform hpl
  obtain ⟨cellS, hcS', heS, -, hkeep⟩ := X.same.2.2.2.2.2 T.aS cellS0 hcS0
  have hcellS : W0.heap[T.aS]? = some cellS := hcS'
  have hout' : ∀ i, (⟨T.aS, i⟩ : Loc) ∉ locs := fun i hmem => by
    have := hlocs _ hmem cellS0 hcS0
    rw [hiss] at this; cases this
  have hknownS : cellS.vm ≠ .unknown := by
    rw [heS]; intro hu
    rw [show cellS0.vm = .unknown from hu] at hiss
    cases hiss
  have hneS : T.aS ≠ a := Nat.ne_of_lt (Nat.lt_of_lt_of_le (Array.getElem?_eq_some_iff.mp hcS0).1 hnew)
  obtain ⟨iM, hffM⟩ := Y.msg
  obtain ⟨tyC, dC, hdC, hdnC⟩ := Cond.laysAt hfound hk Y.cause (a' (.lays cls Bundle.tN "cause" "Ljava/lang/Throwable;") (by simp [zOwn]))
  obtain ⟨tyS, dS, hdS, hdnS⟩ := Cond.laysAt hfound hk Y.stack (a' (.lays cls Bundle.tN "stackTrace" Bundle.steD) (by simp [zOwn]))
  obtain ⟨tyP, dP, hdP, hdnP⟩ := Cond.laysAt hfound hk Y.supp (a' (.lays cls Bundle.tN "suppressedExceptions" Bundle.listD) (by simp [zOwn]))
  obtain ⟨tyM, dM, hdM, hdnM⟩ := Cond.laysAt hfound hk hffM (a' (.lays cls Bundle.tN "detailMessage" "Ljava/lang/String;") (by simp [zOwn]))
  obtain ⟨tyB, dB, hdB, hdnB⟩ := Cond.laysAt hfound hk hffB (a' (.lays cls Bundle.tN "backtrace" "Ljava/lang/Object;") (by simp [zOwn]))
  have bC := Cond.laysApart hdB hdC hdnB hdnC (by rw [hnB, Y.causeName]; decide)
  have bS := Cond.laysApart hdB hdS hdnB hdnS (by rw [hnB, Y.stackName]; decide)
  have bP := Cond.laysApart hdB hdP hdnB hdnP (by rw [hnB, Y.suppName]; decide)
  have hskip : SkipFacts T e.platform s (fun u => u) u0 ((preparedCellV T.toThrowableT (freshCell P1.m.cls kX) a u0 sen).withEntry W0.cur) :=
    ⟨{ ci198 := ci198, i198 := i198, fBack := fB }, ⟨hk198, hg198, ha198, hsB⟩, by
      have := fresh_default (c := P1.m.cls) tyB
      rw [htB] at this
      simpa [preparedCellV, Cell.setSlot, Cell.withEntry, Array.getElem?_setIfInBounds, bC, bS, bP, bC.symm, bS.symm, bP.symm, defaultValue] using this, fun _ _ => rfl⟩
  obtain ⟨tm, methC, cdC, kC, vm₁, hnC, -, -, -, -, -, -, -, hW₁, st1⟩ := Steps.initColdS (tb := p.tables) (e := e) (below := below) (s := s) (U := W0) X.here hexec X.warmed hpl hown (t := Bundle.initS cls) rfl rfl (Bundle.fit_spec hcls).2
    (a' (.methodLink own ic (Bundle.initS cls)) (by simp [zOwn])) (h (.instanceMethod (Bundle.initS cls)) (by simp [zOwn, Bundle.passSAtoms])) (bytes := rx) (maxL := 2) (h (.code (Bundle.initS cls) rx 2 none) (by simp [zOwn, Bundle.passSAtoms]))
    (f := g) hg (a := a) (msg := msg) (rest := .ref a :: rest) hstack hd6
  cases Option.some.inj (hnC.symm.trans hP1m)
  have X₁ := X.noted hW₁
  have hlink1 : P1.sup = P2.m := Option.some.inj (hs1.symm.trans hP2m)
  obtain ⟨vm₂, X₂, st2⟩ := X₁.ctorMessageOffV hexec (g := { g with stack := .ref a :: rest }) hg hsize T L Z LZ M LM (P1 :: P2 :: Pr)
    (fun P hP => by
      rcases List.mem_cons.mp hP with rfl | hP
      · exact L1
      · rcases List.mem_cons.mp hP with rfl | hP
        · exact L2
        · exact hL2 P hP) ⟨hlink1, hlink2, hlink3⟩ (u0 := u0) (sen := sen) (self := a) hmsg (cell := freshCell P1.m.cls kX) (cellS := cellS)
    hcell (fun _ => by simp) (by simp) rfl rfl hsel0 hselF hcellS hneS hknownS (by rw [hkeep _ (hout' _)]; exact hu0) (by rw [hkeep _ (hout' _)]; exact hsen)
    (Takes.of_laid hk hord tyC (by rw [Y.causeType]; rfl)) (Takes.of_laid hk hord tyS (by rw [Y.stackType]; exact fits_refV_array _ u0)) (Takes.of_laid hk hord tyP (by rw [Y.suppType]; exact fits_refV_object _ sen))
    (Takes.of_laid hk hord tyM (by rw [Y.msgType]; exact fits_refV_object _ ⟨msg, hmsg⟩)) Y.objLocals hskip htr [] hd6
    (by simp only [List.length_cons, hlen2, List.length_nil]; omega) (by simp only [List.length_cons, hlen2, List.length_nil]; exact hRlocals)
  obtain ⟨hwalk, hrun, hended, hWU, hsame⟩ := X₂.athrowLeaves hexec (g := { g with stack := .ref a :: rest, pc := g.pc + 3 }) hg hlocked hentered hout (a := a) (rest := rest) rfl hd9
  have hlt : a < ((W0.setVm vm₁).setVm vm₂).heap.size := (Array.getElem?_eq_some_iff.mp hcell).1
  have hU := heapAt_setCell_self (s := (W0.setVm vm₁).setVm vm₂) (plainBareV T.toThrowableT (freshCell P1.m.cls kX) a u0 sen msg) hlt
  refine ⟨_, st1 _ (fun acts => ?_), hrun, hended, hWU, hsame.weaken (fun y hy hlt' => ?_) (Nat.le_refl _) (Nat.le_refl _), _, hU, rfl, hfound⟩
  · rw [doInvoke_state]
    exact st2 _ hwalk
  · rcases List.mem_append.mp hy with h1 | h1
    · exact h1
    · exfalso
      have hb : y.base = a := by
        simp only [List.mem_cons, List.not_mem_nil, or_false] at h1
        rcases h1 with rfl | rfl | rfl | rfl | rfl <;> rfl
      rw [hb] at hlt'
      exact Nat.not_lt.mpr hnew hlt'
end zc
def zOwnN (own : String) (ic : Nat) (X : String) (ix : Nat) (rx : ByteArray) : List Cond := (zOwn own ic X ix rx).filter vx_no
/-- 'throw new C("text")' -/
theorem zx_throw {Q : Int → zM → Prop} {XQ : String → zM → Prop} {mc ms : Nat} {cls text : String} {ik is ic sa ix : Nat} {rx : ByteArray} (ht : ∀ x ∈ c.exceptionTable.toList, False)
    (x0 : decode rx 0 = .ok (.aload_n 0, 1)) (x1 : decode rx 1 = .ok (.aload_n 1, 1)) (x2 : decode rx 2 = .ok (.invokespecial ix, 3)) (x5 : decode rx 5 = .ok (.return_, 1))
    (hst : zXt E.1 E.2.2.2.2.1 (zAs E) s s.heap → vk_R d.2.2.2.2.1 is text sa s)
    (hcls : Bundle.fit cls = true) (hk : Cond.classLink d.2.2.2.2.1 ik cls ∈ zT) (hini : Cond.initialized cls ∈ zT)
    (h1 : ∀ w ∈ (zOwnN d.2.2.2.2.1 ic cls ix rx).filter goodWord, w ∈ zT)
    (h2 : ∀ w ∈ (zOwnN d.2.2.2.2.1 ic cls ix rx).filter (fun w => !goodWord w), w ∈ zDcs.map Cond.declares ++ [.castable cls cls]) (hcc : zXt E.1 E.2.2.2.2.1 (zAs E) s s.heap → va_Nw (.castable cls cls) s)
    (d0 : decode d.2.1 pc = .ok (.new ik, 3)) (d3 : decode d.2.1 (pc + 3) = .ok (.dup, 1)) (d4 : decode d.2.1 (pc + 4) = .ok (.ldc_w is, 3)) (d7 : decode d.2.1 (pc + 7) = .ok (.invokespecial ic, 3)) (d10 : decode d.2.1 (pc + 10) = .ok (.athrow, 1))
    (hfr : 5 < d.2.2.2.2.2.1.frames) (hlo : 82 ≤ d.2.2.2.2.2.1.locals) (hce : cu.1 + 1 ≤ d.2.2.2.2.2.1.cells) (hsl : cu.2 + 6 ≤ d.2.2.2.2.2.1.slots) (hmc : cu.1 + 1 ≤ mc) (hms : cu.2 + 6 ≤ ms) (hq : XQ cls M) :
    zB p e s m ar below meth c (vx_MQ below (zQc E d (zQ Q)) (zXC E XQ) ar s mc ms (zAs E)) E zNN cu d pc al [] M := by
  intro H locs ls hC hH hS hl T hT X
  have hX := hC.1.2.2.2.2.2.2.2.2.2.1
  have hXt : zXt E.1 E.2.2.2.2.1 (zAs E) s s.heap := hX.2.2.2.1.2
  have hTw := hC.1.2.2.2.2.1
  have hexec := hC.1.1
  have hb := hC.1.2.1
  have hat : ∀ w ∈ zOwnN d.2.2.2.2.1 ic cls ix rx, w.before ar s = true := by
    refine vx_hat (fun w hw => hTw w (h1 w hw)) (B := zDcs.map Cond.declares ++ [.castable cls cls]) h2 ?_
    intro w hw
    rcases List.mem_append.mp hw with hw | hw
    · obtain ⟨q, hq1, rfl⟩ := List.mem_map.mp hw
      exact (hXt.2.2.2.2.2.2.2.2.2.2.2 q hq1).use rfl
    · rw [List.mem_singleton.mp hw]
      exact (hcc hXt).use rfl
  have hot : ∀ w ∈ zOwnN d.2.2.2.2.1 ic cls ix rx, vx_ot w = true := by
    intro w hw
    by_cases hg : goodWord w = true
    · simp [vx_ot, hg]
    · have h3 := h2 w (List.mem_filter.mpr ⟨hw, by simp at hg; simp [hg]⟩)
      rcases List.mem_append.mp h3 with h3 | h3
      · obtain ⟨q, hq1, rfl⟩ := List.mem_map.mp h3
        rfl
      · rw [List.mem_singleton.mp h3]
        rfl
  have htr : e.platform.stackTraces = false := (show e.platform.stackTraces = E.1.stackTraces by rw [X.admits.platform]).trans hXt.1
  have Y := vx_rebase X (R' := { frames := d.2.2.2.2.2.1.frames, locals := d.2.2.2.2.2.1.locals, cells := 1, slots := 6 }) (Nat.le_refl _) (Nat.le_refl _) hce hsl
  obtain ⟨s', hA⟩ : ∃ z, z = (T.setVm s.vm).setFrames (.invoking m ar :: below) := ⟨_, rfl⟩
  rw [← hA] at Y
  have hvm : s'.vm = s.vm := by rw [hA]; rfl
  have hhp : s'.heap = H := by rw [hA]; exact hT
  have hW0 : s.WarmedH s'.vm := by rw [hvm]; exact State.WarmedH.refl s
  have hat' : ∀ w ∈ (zOwn d.2.2.2.2.1 ic cls ix rx).filter vx_no, w.before ar s' = true := fun w hw => vx_ot_at hW0 hvm.symm (hot w hw) (hat w hw)
  have hk' : (Cond.classLink d.2.2.2.2.1 ik cls).before ar s' = true := vx_ot_at hW0 hvm.symm rfl (hTw _ hk)
  have hini' : (Cond.initialized cls).before ar s' = true := vx_ot_at hW0 hvm.symm rfl (hTw _ hini)
  have hU' : vx_Zq Bundle.tN "UNASSIGNED_STACK" Bundle.steD (zAs E) s' s'.heap := by rw [hhp]; exact vx_Zq.moved hW0.alike (hXt.2.1.kept hS.2.1)
  have hN' : vx_Zq Bundle.tN "SUPPRESSED_SENTINEL" Bundle.listD (zAs E) s' s'.heap := by rw [hhp]; exact vx_Zq.moved hW0.alike (hXt.2.2.1.kept hS.2.1)
  have h : ∀ w ∈ zOwn d.2.2.2.2.1 ic cls ix rx, w.before ar s' = true := vx_own hat' (vx_isRefq hU'.1) (vx_isRefq hN'.1) hU'.2.word hN'.2.word
  have hown' : s'.vm.findClass d.2.2.2.2.1 = some m.cls := by rw [hvm]; exact hC.1.2.2.2.1
  have hins : (Cond.instantiable cls 6).before ar s' = true := h _ (by simp [zOwn])
  obtain ⟨vm₁, cX, kX, hfX, hkX, -, -, X₁, st1⟩ := Y.newCold hexec (own := d.2.2.2.2.1) (C := cls) (index := ik) (n := 6) hown' hk' hins hini'
    (g := F0 m pc ls []) rfl (by rw [hb]; exact d0) (Nat.le_refl _) (Nat.le_refl _)
  generalize hT1 : (T.setVm vm₁).pushCell { cls := cX, slots := kX.instanceTypes.map defaultValue, vm := .none } = T1 at X₁ st1
  have hcat : (Value.ref T.heap.size).category = 1 := rfl
  have hcellA : T1.heap[T.heap.size]? = some (freshCell cX kX) := by rw [← hT1]; exact State.heap_pushCell_size _ _
  have d3' : decode c.code (pc + 3) = .ok (.dup, 1) := by rw [hb]; exact d3
  have d4' : decode c.code (pc + 4) = .ok (.ldc_w is, 3) := by rw [hb]; exact d4
  have hstr' : vk_R d.2.2.2.2.1 is text sa s' := vk_R.warm hW0 (hst hXt)
  obtain ⟨U, hsteps, hrun, hend, hW, hsame, ce, hce9, hvm9, hcl9⟩ := zx_ctorS X₁ hexec htr (own := d.2.2.2.2.1) (cls := cls) (ic := ic) x0 x1 x2 x5 hown' hcls h (fun x hx => nomatch hx) hfX hkX hcellA (by rw [hhp, hT]; exact Nat.le_refl _) (msg := .ref sa) rfl
    (g := { method := m, pc := pc + 7, locals := ls, stack := .ref sa :: .ref T.heap.size :: .ref T.heap.size :: [], locked := none }) rfl (hl.1.trans hC.1.2.2.1.symm) rfl rfl (rest := []) rfl
    (by rw [hb]; exact d7) (by rw [hb]; exact d10) (fun x hx => absurd (ht x hx) id) hfr (by simp only [List.map_cons, List.sum_cons, hcat, List.map_nil, List.sum_nil]; omega) hC.1.2.2.2.2.2.2.1
  obtain ⟨f1, f2⟩ := vx_frame hsame
  rw [hhp] at f1 f2
  have hWs : s.WarmedH U.vm := State.WarmedH.trans hW0 hW
  have hcl : s.vm.findClass cls = some ce.cls := by
    rw [hvm] at hcl9
    exact hcl9
  have hall : s.sameButNew ({ U with vm := s.vm } : State) locs mc ms := by
    subst hA
    obtain ⟨e1, e2⟩ := hsame
    rw [State.setFrames_setFrames] at e1
    have h2 : (T.setVm s.vm).sameButNew ({ U with vm := s.vm } : State) [] (0 + 1) (0 + 6) := ⟨e1, e2⟩
    have h3 := X.same.trans h2
    rw [List.append_nil] at h3
    exact h3.mono hmc hms
  have hqs : ∀ q : Nat, q < H.size → U.heap[q]? = H[q]? := fun q hq => f2 q hq (fun z hz => nomatch hz)
  have hxc : zXC E XQ cls s U := ⟨M, hq, zH_kept hH hqs, ⟨Nat.le_trans hS.1 f1, fun q h3 h4 => by rw [hqs q (Nat.lt_of_lt_of_le h3 hS.1)]; exact hS.2.1 q h3 h4⟩⟩
  refine ⟨U, ?_, .threw T.heap.size, hrun, hend, Or.inr ⟨T.heap.size, rfl, cls, ce, locs, hxc, hce9, hvm9, hcl, hWs, hall, hS.2.2⟩⟩
  refine st1 _ ?_
  show Steps p.tables e below (T1.setTop { method := m, pc := pc + 3, locals := ls, stack := .ref T.heap.size :: [], locked := none }) _
  jvm_step X₁.here [X₁.here.top, hexec, d3', Value.category]
  exact X₁.ldcStringW hexec (own := d.2.2.2.2.1) (text := text) (index := is) (a := sa) hown' hstr'.1 hstr'.2
    (g := { method := m, pc := pc + 4, locals := ls, stack := .ref T.heap.size :: .ref T.heap.size :: [], locked := none }) rfl d4' _ hsteps
end zx
