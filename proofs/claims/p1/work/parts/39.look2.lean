/-! a call that may throw, and its catching -/
section zxc
variable {E : zE} {N : zN} {cu : Nat × Nat} {d : zD} {pc pc' : Nat} {al al' : List (Nat × zV)} {st : List zV} {M : zM}
variable {p : Program} {e : Env} {s : State} {m : MethodId} {ar : Array Value} {below : List Frame} {meth : Method} {c : Code} {PQ : State → Prop}
theorem zx_callX {d2 : zD} {idx ci n kn : Nat} {b : Int} {args st0 : List zV} {Q' : Int → zM → Prop} {XQ : String → zM → Prop} {st' : Int → List zV} (hd : decode d.2.1 pc = .ok (.invokevirtual idx, 3)) (hp : pc + 3 = pc') (hw : zCv d.2.2.2.2.1 idx d2 ci n) (hR : zRm d d2) (hb : 0 ≤ b) (hk : zNN.1[b.toNat]? = some (ci, kn)) (hn : args.length = n) (hst : args.reverse ++ .inr (.inr b) :: st = st0) (h8 : (st.map zcat).sum ≤ 8) (hcu : cu.1 + d2.2.2.2.2.2.2.1 ≤ d.2.2.2.2.2.1.cells ∧ cu.2 + d2.2.2.2.2.2.2.2 ≤ d.2.2.2.2.2.1.slots) (hr : ∀ r, zpu d2.2.2.2.1 r st = st' r)
    (hM : zCX E d2 (.inr (.inr b) :: args) M Q' XQ)
    (kx : ∀ (C : String) (M' : zM), XQ C M' → ∀ (H1 : Heap) (locs1 : List Loc) (ls : Array Slot) (q : Addr) (ce : Cell), zCx E d p s m ar meth c → zH E zNN M' H1 → va_S (zAs E) s.heap H1 locs1 → lv_has ls d.2.2.1 (al.map fun q => (q.1, zv E q.2)) → H1[q]? = some ce → ce.vm = .none → s.vm.findClass C = some ce.cls →
      vx_W p E.1 e d.2.2.2.2.2.1 s m ar below meth c H1 locs1 (cu.1 + d2.2.2.2.2.2.2.1) (cu.2 + d2.2.2.2.2.2.2.2) PQ (F0 m pc ls (st.map (zv E))) q)
    (k : ∀ r M', Q' r M' → zB p e s m ar below meth c PQ E zNN (cu.1 + d2.2.2.2.2.2.2.1, cu.2 + d2.2.2.2.2.2.2.2) d pc' al (st' r) M') : zB p e s m ar below meth c PQ E zNN cu d pc al st0 M := by
  subst hp hst
  intro H locs ls hC hH hS hl T hT X
  obtain ⟨C, T0, Nf, h1, h3, hcls, w1, w2, w3, w4, w5, w6, w7, w8⟩ := hw
  have cw : CallW d.2.2.2.2.2.1 s ar d.2.2.2.2.1 C idx d2.1 d2.2.1 d2.2.2.1 d2.2.2.2.1 (zws d2) d2.2.2.2.2.2.1 d2.2.2.2.2.2.2.1 d2.2.2.2.2.2.2.2 n := by
    refine cwV (ws' := zT) n hC.1.2.2.2.2.1 (zgood (fun w h => ?_)) rfl hR.1 hR.2.1 ⟨hcls, w6, w7, w8⟩ ⟨hR.2.2.1, hR.2.2.2⟩
    unfold wsV at h
    rcases List.mem_append.mp h with h | h
    · simp only [List.mem_cons, List.not_mem_nil, or_false] at h
      rcases h with rfl | rfl | rfl | rfl
      · exact w1
      · exact w2
      · exact w3
      · exact w4
    · exact zcode_in w5 w h
  have hwk := zw_get E zNN M hk
  rw [zent_ob E zNN M _ h3] at hwk
  have hK := hC.1.2.2.2.2.2.2.2.1
  have hrun : vx_Run p E.1 e d.2.2.2.2.2.1 s m ar below meth c H locs cu.1 cu.2 d2.2.2.2.2.2.2.1 d2.2.2.2.2.2.2.2 (F0 m pc ls ((args.reverse ++ .inr (.inr b) :: st).map (zv E))) (st.map (zv E)) (zQc E d2 (zQ Q') (Value.ref (E.2.2.2.1 + b.toNat) :: args.map (zv E)).toArray) (zXC E XQ) (zAs E) := by
    refine vx_runV (b := E.2.2.2.1 + b.toNat) (As := args.map (zv E)) (rest := st.map (zv E)) ⟨hC.1.1, hC.1.2.1, hC.1.2.2.1, hC.1.2.2.2.1, hC.1.2.2.2.2.1⟩ hM cw ⟨zpre_blind E zNN M _, va_recv hK hH (ci := ci) (q0 := b.toNat) h1 hwk, fun U hU hW => ⟨?_, by rw [hU]; exact hH, va_K.moved hW.alike hK, by rw [hU]; exact Nat.le_trans hC.1.2.2.2.2.2.2.2.2.1 hS.1, hC.1.2.2.2.2.2.2.2.2.2.1.pass hW hU hS hC.1.2.2.2.2.2.2.2.2.1, fun h => absurd h (by decide)⟩⟩ rfl (by rw [List.length_map]; exact hn) hl.1 ?_ ?_ hd hcu
    · rw [List.map_cons, zv_ref E hb]
    · rw [List.map_append, List.map_cons, List.map_reverse, zv_ref E hb]
    · refine lv_room ?_
      rw [zcat_sum]
      exact h8
  rcases hrun T hT X with ⟨v, st₀, t, T', L, h0, X', hL, e1, e2, ⟨r, N', M', ⟨rfl, hq⟩, ho, hH', hz, hk9⟩, go⟩ | ⟨q, st₀, t, T', L, C9, ce, h0, X', hL, e1, e2, ⟨M', hq, hH', hz, hk9⟩, hce, hcv, hcl, go⟩
  · have hv : v = zro E d2.2.2.2.1 r := by cases ho; rfl
    rw [h0] at hz hk9
    have hS' : va_S (zAs E) s.heap T'.heap (locs ++ L) := ⟨Nat.le_trans hS.1 (by rw [e1]; exact hz), fun q h1 h2 => by rw [e1, hk9 q (Nat.lt_of_lt_of_le h1 hS.1) h2]; exact hS.2.1 q h1 h2, fun q hq => by
      rcases List.mem_append.mp hq with h | h
      · exact hS.2.2 q h
      · exact hL q h⟩
    have hk2 := k r M' hq T'.heap (locs ++ L) ls ⟨hC.1, fun h => absurd h (by decide)⟩ (by rw [e1]; exact hH') hS' hl
    have hst : v.toList ++ st.map (zv E) = (st' r).map (zv E) := by
      rw [hv, ← hr r]
      unfold zro zpu
      cases d2.2.2.2.1 with
      | none => rfl
      | some ty => show zfv E ty r :: _ = zv E (zfV ty r) :: _; rw [zfV_rep]; rfl
    obtain ⟨t2, a1, b1⟩ := hk2 T' rfl X'
    refine ⟨t2, go t2 ?_, b1⟩
    rw [hst]
    exact a1
  · rw [h0] at hz hk9
    have hS' : va_S (zAs E) s.heap T'.heap (locs ++ L) := ⟨Nat.le_trans hS.1 (by rw [e1]; exact hz), fun q h1 h2 => by rw [e1, hk9 q (Nat.lt_of_lt_of_le h1 hS.1) h2]; exact hS.2.1 q h1 h2, fun q hq => by
      rcases List.mem_append.mp hq with h | h
      · exact hS.2.2 q h
      · exact hL q h⟩
    obtain ⟨t2, a1, b1⟩ := kx C9 M' hq T'.heap (locs ++ L) ls q ce hC.1 (by rw [e1]; exact hH') hS' hl (by rw [e1]; exact hce) hcv hcl T' rfl X'
    exact ⟨t2, go.trans a1, b1⟩
theorem zx_find {Q : Handler → Pre} {E0 : CtlPost} {e : Env} {d0 : Bool} {acts : List Action} {S : State} {f : JFrame} {a : Addr} {x : ExceptionTableEntry} {t : List ExceptionTableEntry} {k : ClassId} {cell : Cell} (hx : covers x f.pc = true) (h0 : x.catchType ≠ 0)
    (hl : S.vm.ClassLinks e.platform f.method.cls x.catchType k) (hcell : S.heap[a]? = some cell) (hobj : ∀ k, cell.vm ≠ .statics k)
    (hk : ∃ k, S.vm.classes[cell.cls]? = some k) (hc : ∃ k9, S.vm.classes[k]? = some k9) :
    wp (findHandler.go f a (x :: t)) Q E0 e d0 acts S ↔ if S.vm.assignable cell.cls k = true then Q (.found x.handlerPc) d0 acts (S.setVm (S.vm.noted f.method.cls x.catchType (.cls k))) else wp (findHandler.go f a t) Q E0 e d0 acts (S.setVm (S.vm.noted f.method.cls x.catchType (.cls k))) := by
  simp only [covers] at hx
  obtain ⟨ha, ht⟩ := (resolveClass_links e.toSetting hl).op (op := VmOp.resolveClass f.method.cls x.catchType) rfl
  have hal : S.vm.Alike (S.vm.noted f.method.cls x.catchType (.cls k)) := (Vm.Alike.refl S.vm).noted _ _ _
  obtain ⟨k1, hk1⟩ := hk
  obtain ⟨k2, hk2⟩ := hc
  obtain ⟨k1', hk1', -⟩ := hal.2.2 _ _ hk1
  obtain ⟨k2', hk2', -⟩ := hal.2.2 _ _ hk2
  have he : (S.vm.noted f.method.cls x.catchType (.cls k)).assignable cell.cls k = S.vm.assignable cell.cls k := hal.assignable _ _
  cases hfit : S.vm.assignable cell.cls k <;> simp [findHandler.go, hx, h0, ha, ht, hcell, hobj, hk1', hk2', he, hfit, VmOp.dirties, VmOp.acts]
theorem zx_caught {tb : Tables} {e : Env} {s target : State} {g : JFrame} {c : Code} {below : List Frame} {a : Addr} (h : At s g.method c below) {pc : Nat} {vm' : Vm}
    (hfind : ∀ (Q : Handler → Pre) (E : CtlPost) (d : Bool) (acts : List Action), wp (findHandler g a) Q E e d acts ((s.setTop g).pushFrame (.throwing a)) ↔ Q (.found pc) d acts (((s.setTop g).pushFrame (.throwing a)).setVm vm')) (hrest : Steps tb e below ((s.setVm vm').setTop { g with pc := pc, stack := [.ref a] }) target) :
    Steps tb e below ((s.setTop g).pushFrame (.throwing a)) target := by
  have hstep : ∀ (S : State) (r : List Frame), (∀ (Q : Handler → Pre) (E : CtlPost) (d : Bool) (acts : List Action), wp (findHandler g a) Q E e d acts S ↔ Q (.found pc) d acts (S.setVm vm')) →
      (stepThrowing e S a (.java g :: r)).Is ((S.setVm vm').setFrames (.java { g with pc := pc, stack := [.ref a] } :: r)) [] := by
    intro S r hf
    simp only [stepThrowing, searchFrame, vmDo]
    generalize hr : Sem.go _ e false [] S = res
    obtain ⟨as, rfl, ha⟩ := Sem.eq_ok_of hr (a := Handler.found pc) (s' := S.setVm vm') (acts' := []) (by simp [hf _ _ _ _])
    exact ⟨rfl, ha⟩
  have hmv : ∀ (u : State) (v : Vm) (F G : List Frame), ((u.setFrames F).setVm v).setFrames G = (u.setVm v).setFrames G := by
    intro u v F G
    have h1 : (u.setFrames F).setVm v = (u.setVm v).setFrames F := rfl
    rw [h1, State.setFrames_setFrames]
  obtain ⟨hgo, hw⟩ := h.throwing a
  refine Steps.head hgo hw ?_
  rw [stepThread_throwing (frames_entered h.top _), (hstep ((s.setTop g).pushFrame (.throwing a)) _ hfind).1]
  obtain ⟨g₀, hg⟩ := Option.isSome_iff_exists.mp h.top
  obtain ⟨r, hr⟩ := State.topJava?_eq_some.mp hg
  have hr' : (s.setVm vm').frames = .java g₀ :: r := hr
  rw [State.setTop_of_frames _ hr'] at hrest
  rw [hr, List.tail_cons, State.pushFrame, hmv, State.setTop_of_frames _ hr, hmv]
  exact hrest
section zxd
variable {R : Room} {l : Launch} {H : Heap} {locs : List Loc} {cells slots : Nat} {ls : Array Slot} {rest : List Value}
theorem zx_catch1 {own name C : String} {ce : Cell} {q : Addr} (hown : s.vm.findClass own = some m.cls) (x : ExceptionTableEntry) (suf : List ExceptionTableEntry) (hsplit : c.exceptionTable.toList = x :: suf) (hx : covers x pc = true) (h0 : x.catchType ≠ 0)
    (hlink : (Cond.classLink own x.catchType name).before ar s = true) (hcast : (Cond.castable C name).before ar s = true) (hcell : H[q]? = some ce) (hv : ce.vm = .none) (hcl : s.vm.findClass C = some ce.cls)
    (kk : W p l e R s m ar below meth c H locs cells slots PQ (F0 m x.handlerPc ls [.ref q])) : vx_W p l e R s m ar below meth c H locs cells slots PQ (F0 m pc ls rest) q := by
  intro T hT X
  have hpl : e.platform.magicAccessors = ({} : Platform).magicAccessors := by rw [X.admits.platform]
  obtain ⟨c3, c4, hc3, hc4, hasg⟩ := Cond.castable_spec hcast
  cases Option.some.inj (hc3.symm.trans hcl)
  obtain ⟨c5, hc5, hl⟩ := Cond.classLink_spec hown hlink e.platform hpl
  cases Option.some.inj (hc4.symm.trans hc5)
  obtain ⟨dk, _, _, kt, hd, _, _, _, _, hkt, _, hopen⟩ := hl.here
  have hW := X.warmed
  obtain ⟨kt', hkt', -⟩ := hW.alike.2.2 _ _ hkt
  obtain ⟨k9, h9, -⟩ := Vm.findClass_spec hcl
  obtain ⟨k9', h9', -⟩ := hW.alike.2.2 _ _ h9
  have hW' := hW.noted hd hopen (State.rightAt_cls hl)
  obtain ⟨t, a1, b1⟩ := kk (T.setVm (T.vm.noted m.cls x.catchType (.cls c4))) hT (X.noted hW')
  refine ⟨t, zx_caught (g := F0 m pc ls rest) X.here (fun Q E0 d0 acts => ?_) a1, b1⟩
  rw [W.findHandler_eq (meth := meth) (code := c) X.method' X.code, hsplit, zx_find (S := (T.setTop (F0 m pc ls rest)).pushFrame (.throwing q)) (k := c4) (cell := ce) hx h0 (hW.classLinks hl) (by show T.heap[q]? = some ce; rw [hT]; exact hcell) (by rw [hv]; intro k h; cases h) ⟨k9', h9'⟩ ⟨kt', hkt'⟩, if_pos (by show T.vm.assignable ce.cls c4 = true; rw [hW.alike.assignable]; exact hasg)]
  rfl
theorem zx_catch2 {own name nm C : String} {ce : Cell} {q : Addr} (hown : s.vm.findClass own = some m.cls) (x0 x : ExceptionTableEntry) (suf : List ExceptionTableEntry) (hsplit : c.exceptionTable.toList = x0 :: x :: suf) (hx0 : covers x0 pc = true) (h00 : x0.catchType ≠ 0) (hlink0 : (Cond.classLink own x0.catchType nm).before ar s = true) (hno : va_Nc C nm s)
    (hx : covers x pc = true) (h0 : x.catchType ≠ 0)
    (hlink : (Cond.classLink own x.catchType name).before ar s = true) (hcast : (Cond.castable C name).before ar s = true) (hcell : H[q]? = some ce) (hv : ce.vm = .none) (hcl : s.vm.findClass C = some ce.cls)
    (kk : W p l e R s m ar below meth c H locs cells slots PQ (F0 m x.handlerPc ls [.ref q])) : vx_W p l e R s m ar below meth c H locs cells slots PQ (F0 m pc ls rest) q := by
  intro T hT X
  have hpl : e.platform.magicAccessors = ({} : Platform).magicAccessors := by rw [X.admits.platform]
  obtain ⟨c3, c4, hc3, hc4, hasg⟩ := Cond.castable_spec hcast
  cases Option.some.inj (hc3.symm.trans hcl)
  obtain ⟨c5, hc5, hl⟩ := Cond.classLink_spec hown hlink e.platform hpl
  cases Option.some.inj (hc4.symm.trans hc5)
  obtain ⟨c6, hc6, hl0⟩ := Cond.classLink_spec hown hlink0 e.platform hpl
  obtain ⟨a8, b8, g1, g2, g3⟩ := hno
  cases Option.some.inj (g1.symm.trans hcl)
  cases Option.some.inj (g2.symm.trans hc6)
  obtain ⟨dk, _, _, kt, hd, _, _, _, _, hkt, _, hopen⟩ := hl.here
  obtain ⟨dk0, _, _, kt0, hd0, _, _, _, _, hkt0, _, hopen0⟩ := hl0.here
  have hW := X.warmed
  obtain ⟨kt0', hkt0', -⟩ := hW.alike.2.2 _ _ hkt0
  obtain ⟨k9, h9, -⟩ := Vm.findClass_spec hcl
  obtain ⟨k9', h9', -⟩ := hW.alike.2.2 _ _ h9
  have hW1 := hW.noted hd0 hopen0 (State.rightAt_cls hl0)
  obtain ⟨kt', hkt', -⟩ := hW1.alike.2.2 _ _ hkt
  obtain ⟨k9'', h9'', -⟩ := hW1.alike.2.2 _ _ h9
  have hW' := hW1.noted hd hopen (State.rightAt_cls hl)
  obtain ⟨t, a1, b1⟩ := kk (T.setVm ((T.vm.noted m.cls x0.catchType (.cls c6)).noted m.cls x.catchType (.cls c4))) hT (X.noted hW')
  refine ⟨t, zx_caught (g := F0 m pc ls rest) X.here (fun Q E0 d0 acts => ?_) a1, b1⟩
  rw [W.findHandler_eq (meth := meth) (code := c) X.method' X.code, hsplit, zx_find (S := (T.setTop (F0 m pc ls rest)).pushFrame (.throwing q)) (k := c6) (cell := ce) hx0 h00 (hW.classLinks hl0) (by show T.heap[q]? = some ce; rw [hT]; exact hcell) (by rw [hv]; intro k h; cases h) ⟨k9', h9'⟩ ⟨kt0', hkt0'⟩, if_neg (by
    show ¬ T.vm.assignable ce.cls c6 = true
    rw [hW.alike.assignable, g3]
    decide), zx_find (S := ((T.setTop (F0 m pc ls rest)).pushFrame (.throwing q)).setVm (((T.setTop (F0 m pc ls rest)).pushFrame (.throwing q)).vm.noted (F0 m pc ls rest).method.cls x0.catchType (.cls c6))) (k := c4) (cell := ce) hx h0 (hW1.classLinks hl) (by show T.heap[q]? = some ce; rw [hT]; exact hcell) (by rw [hv]; intro k h; cases h) ⟨k9'', h9''⟩ ⟨kt', hkt'⟩, if_pos (by
    show (T.vm.noted m.cls x0.catchType (.cls c6)).assignable ce.cls c4 = true
    rw [hW1.alike.assignable]; exact hasg)]
  rfl
end zxd
/-- a method with a table of handlers of its own -/
def zwsH (d : zD) (hh : List (Nat × Nat × Nat × Nat)) : List Cond := .codeWith d.1 d.2.1 d.2.2.1 d.2.2.2.1 hh :: zT
def zCH (E : zE) (d : zD) (hh : List (Nat × Nat × Nat × Nat)) (args : List zV) (M : zM) (Q : Int → zM → Prop) : Prop :=
  Met E.1 d.1 (zwsH d hh) d.2.2.2.2.2.1 (va_Pc (args.map (zv E)) (zPre E zNN M)) (zQc E d (zQ Q)) d.2.2.2.2.2.2.1 d.2.2.2.2.2.2.2 (zAs E)
theorem zCH_of {hh : List (Nat × Nat × Nat × Nat)} {args : List zV} {Q : Int → zM → Prop} (hpl : plainName d.1.cls = true) (hown : d.1.cls = d.2.2.2.2.1) (hlen : (args.map zcat).sum ≤ d.2.2.1)
    (k : ∀ (p : Program) (e : Env) (s : State) (m : MethodId) (ar : Array Value) (below : List Frame) (meth : Method) (c : Code), c.exceptionTable.toList = tableOf hh → zB p e s m ar below meth c (vx_MQ below (zQc E d (zQ Q)) (fun _ _ _ => False) ar s d.2.2.2.2.2.2.1 d.2.2.2.2.2.2.2 (zAs E)) E zNN (0, 0) d 0 (zargs 0 args) [] M) : zCH E d hh args M Q := by
  unfold zCH Met
  refine MetFree.of_bodyS (code := d.2.1) (maxLocals := d.2.2.1) (ret := d.2.2.2.1) hpl ?_ ?_
  · intro args s m h hn
    obtain ⟨m9, meth, c, hn9, h1, h2, h3, h4, -, h5, h6, -⟩ := Cond.codeWith_spec (atoms_spec (ws := zwsH d hh) h _ List.mem_cons_self)
    cases hn.symm.trans hn9
    exact ⟨meth, c, h1, h2, h3, h4, h5, h6⟩
  · intro p e s m a below meth c s₁ B hml hP _
    obtain ⟨rfl, hH, hK, hB, hX, hZ⟩ := hP
    have hh0 : s₁.heap = s.heap := by rw [B.state]; rfl
    have htab : c.exceptionTable.toList = tableOf hh := vx_table (x := d.1) B (atoms_spec (ws := zwsH d hh) B.pre _ List.mem_cons_self)
    have hts : ∀ w ∈ zT, w.before (args.map (zv E)).toArray s = true := fun w h => atoms_spec (ws := zwsH d hh) B.pre w (List.mem_cons_of_mem _ h)
    have hown2 : s.vm.findClass d.2.2.2.2.1 = some m.cls := by rw [← hown]; exact findClass_of_methodNamed B.named
    have hl := lv_entry (args.map (zv E)) (by rw [lg_zl]; exact hlen)
    have key : W p E.1 e d.2.2.2.2.2.1 s m (args.map (zv E)).toArray below meth c s.heap [] 0 0 (vx_MQ below (zQc E d (zQ Q)) (fun _ _ _ => False) (args.map (zv E)).toArray s d.2.2.2.2.2.2.1 d.2.2.2.2.2.2.2 (zAs E)) (entryFrame m (args.map (zv E)).toArray d.2.2.1) := by
      rw [lg_entry_eq]
      generalize (lg_sl (args.map (zv E)) ++ List.replicate (d.2.2.1 - (lg_sl (args.map (zv E))).length) Slot.unset).toArray = ls at hl ⊢
      rw [← zargs_rep] at hl
      exact k p e s m _ below meth c htab s.heap [] ls ⟨⟨B.exec, B.bytes, hml, hown2, hts, B.returns, B.notSynchronized, hK, hB, hX, fun h => (name_of_methodNamed B.named B.method).1.trans h⟩, hZ⟩ hH va_S.rf hl
    obtain ⟨t, a1, o, b1, b2, b3⟩ := key s₁ hh0 (Stand.of_body B)
    rcases b3 with b3 | ⟨q, -, C, ce, L, hf, -⟩
    · exact ⟨t, o, a1, b1, b2, b3⟩
    · exact hf.elim
/-- the words of a call of a static method with handlers -/
def zCsH (own : String) (idx : Nat) (d2 : zD) (hh : List (Nat × Nat × Nat × Nat)) (n : Nat) : Prop := Cond.methodLink own idx d2.1 ∈ zT ∧ Cond.static d2.1 ∈ zT ∧ Cond.initialized d2.1.cls ∈ zT ∧ Cond.codeWith d2.1 d2.2.1 d2.2.2.1 d2.2.2.2.1 hh ∈ zT ∧ d2.1.cls ≠ "java/lang/invoke/MethodHandle" ∧ d2.1.cls ≠ "java/lang/invoke/VarHandle" ∧ (parseMethodDescriptor d2.1.desc).map (fun d => d.parameters.length) = some n
theorem zr_callSH {d2 : zD} {hh : List (Nat × Nat × Nat × Nat)} {idx n : Nat} {args st0 : List zV} {Q : Int → zN → zM → Prop} {Q' : Int → zM → Prop} {st' : Int → List zV} (hd : decode d.2.1 pc = .ok (.invokestatic idx, 3)) (hp : pc + 3 = pc') (hw : zCsH d.2.2.2.2.1 idx d2 hh n) (hR : zRm d d2) (hn : args.length = n) (hst : args.reverse ++ st = st0) (h8 : (st.map zcat).sum ≤ 8) (hcu : cu.1 + d2.2.2.2.2.2.2.1 ≤ d.2.2.2.2.2.1.cells ∧ cu.2 + d2.2.2.2.2.2.2.2 ≤ d.2.2.2.2.2.1.slots) (hr : ∀ r, zpu d2.2.2.2.1 r st = st' r)
    (hM : zCH E d2 hh args M Q') (k : ∀ r M', Q' r M' → zA E zNN (cu.1 + d2.2.2.2.2.2.2.1, cu.2 + d2.2.2.2.2.2.2.2) d pc' al (st' r) M' Q) : zA E zNN cu d pc al st0 M Q := by
  subst hp hst
  intro p e s m a below meth c H locs ls hC hH hS hl T0 hT0 X0
  obtain ⟨w1, w2, w4, w5, w6, w7, w8⟩ := hw
  have hts := hC.1.2.2.2.2.1
  have cw : vx_CSW d.2.2.2.2.2.1 s a d.2.2.2.2.1 idx d2.1 d2.2.1 d2.2.2.1 d2.2.2.2.1 hh (zwsH d2 hh) d2.2.2.2.2.2.1 d2.2.2.2.2.2.2.1 d2.2.2.2.2.2.2.2 n := by
    refine vx_cwSW (ws' := zT) n hts (zgood (fun w h => ?_)) rfl hR.1 hR.2.1 ⟨w6, w7, w8⟩ ⟨hR.2.2.1, hR.2.2.2⟩
    unfold va_wsS at h
    rcases List.mem_append.mp h with h | h
    · simp only [List.mem_cons, List.not_mem_nil, or_false] at h
      rcases h with rfl | rfl | rfl
      · exact w1
      · exact w2
      · exact w4
    · rcases List.mem_cons.mp h with rfl | h
      · exact w5
      · exact h
  have hK := hC.1.2.2.2.2.2.2.2.1
  refine zcall_go (d2 := d2) (Q' := zQ Q') hr (fun r N' M' h h2 => ?_) (fun r N' M' h => ?_) hC hS hl (crun_of (vx_runSW (As := args.map (zv E)) (rest := st.map (zv E)) ⟨hC.1.1, hC.1.2.1, hC.1.2.2.1, hC.1.2.2.2.1, hC.1.2.2.2.2.1⟩ hM cw ⟨zpre_blind E zNN M _, fun U hU hW => ⟨rfl, by rw [hU]; exact hH, va_K.moved hW.alike hK, by rw [hU]; exact Nat.le_trans hC.1.2.2.2.2.2.2.2.2.1 hS.1, hC.1.2.2.2.2.2.2.2.2.2.1.pass hW hU hS hC.1.2.2.2.2.2.2.2.2.1, fun h => absurd h (by decide)⟩⟩ rfl (by rw [List.length_map]; exact hn) hl.1 ?_ ?_ hd hcu)) T0 hT0 X0
  · rw [h.1] at h2; cases h2
  · obtain ⟨rfl, h⟩ := h
    exact k r M' h
  · rw [List.map_append, List.map_reverse]
  · refine lv_room ?_
    rw [zcat_sum]
    exact h8
end zxc
