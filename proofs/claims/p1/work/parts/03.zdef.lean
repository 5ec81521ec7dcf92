/-! The abstract machine over the kit: numbers are Int, cells are (id, place), ids in the order of making. -/
abbrev zV : Type := Int ⊕ (Int ⊕ Int)
abbrev zM : Type := Nat → Nat → Int
/-- kinds of the cells made, finals that are known, whether cells are still made -/
abbrev zN : Type := List (Nat × Nat) × (Nat → Nat → Option Int) × Bool
/-- launch, class numbers and slots, array classes, first address, addresses of what lies outside, the script -/
abbrev zE : Type := Launch × va_G × (Nat → ClassId) × Nat × (Nat → Nat) × Nat × (Nat → Int32)
/-- a method: name, code, locals, what it returns, its class, room, cells, slots -/
abbrev zD : Type := MethodName × ByteArray × Nat × Option FieldType × String × Room × Nat × Nat
def zrf (E : zE) (r : Int) : Option Nat := if r = -1 then none else if r < 0 then some (E.2.2.2.2.1 (-r).toNat) else some (E.2.2.2.1 + r.toNat)
def zv (E : zE) : zV → Value
  | .inl x => .int (Int32.ofInt x)
  | .inr (.inl x) => .long (Int64.ofInt x)
  | .inr (.inr r) => va_rf (zrf E r)
def zfv (E : zE) (ty : FieldType) (x : Int) : Value := match ty with
  | .long => .long (Int64.ofInt x)
  | .object _ => va_rf (zrf E x)
  | .array _ => va_rf (zrf E x)
  | _ => .int (Int32.ofInt x)
def ztyL : List (Nat → FieldType) := [tyX0, tyX1, tyX2, tyX3, tyX4, tyX5, tyX6, tyX7, tyX8, tyX9, tyX10, tyX11, tyX12]
def zty (c : Nat) : Nat → FieldType := ztyL.getD c (fun _ => .int)
def znf (c : Nat) : Nat := (vwCl.getD c ("", (fun _ => ("", "", "", false)), 0)).2.2
def zg (N : zN) (M : zM) (a j : Nat) : Int := (N.2.1 a j).getD (M a j)
def zent (E : zE) (N : zN) (M : zM) (i : Nat) (kd : Nat × Nat) : va_E :=
  if kd.1 < 100 then .inr (kd.1, (List.range (znf kd.1)).map (fun j => zfv E (zty kd.1 j) (zg N M i j)))
  else if kd.1 = 101 then .inl (E.2.2.1 kd.1, kd.2, .inr (.inl (fun j => Int64.ofInt (M i j))))
  else if kd.1 < 103 then .inl (E.2.2.1 kd.1, kd.2, .inl (fun j => Int32.ofInt (M i j)))
  else .inl (E.2.2.1 kd.1, kd.2, .inr (.inr (.inr (.inr (fun j => zrf E (M i j))))))
def zw (E : zE) (N : zN) (M : zM) : va_W := (List.range N.1.length).map (fun i => (E.2.2.2.1 + i, zent E N M i (N.1.getD i (0, 0))))
def zAs (E : zE) : Nat → Prop := fun q => E.2.2.2.1 ≤ q
def zup (M : zM) (a i : Nat) (v : Int) : zM := fun x => if x = a then (fun y => if y = i then v else M a y) else M x
/-- the words of all methods -/
def zT : List Cond := lw_tbl.filter goodWord
def zws (d : zD) : List Cond := .code d.1 d.2.1 d.2.2.1 d.2.2.2.1 :: zT
def ztys (E : zE) : List (ClassId × FieldType) := [(E.2.2.1 100, .int), (E.2.2.1 101, .long), (E.2.2.1 102, .boolean), (E.2.2.1 103, .object RX0), (E.2.2.1 107, .object RX4), (E.2.2.1 113, .object RX10)]
def zro (E : zE) (ret : Option FieldType) (r : Int) : Option Value := ret.map (fun ty => zfv E ty r)
/-- classes of which arrays can be made; texts and what a throw needs -/
def zStr (E : zE) (U : State) : Prop := (∀ C ∈ zAos, va_AO C U) ∧ zXt E.1 E.2.2.2.2.1 (zAs E) U U.heap
theorem zStr.pass {E : zE} {s U : State} (h : zStr E s) (hW : s.WarmedH U.vm) (hq : ∀ a : Nat, a < s.heap.size → ¬ zAs E a → U.heap[a]? = s.heap[a]?) : zStr E U := ⟨fun C hC => (h.1 C hC).moved hW.alike, h.2.pass hW hq⟩
theorem zStr.blind {E : zE} {U : State} (h : zStr E U) (g : JFrame) (mk : MethodId) (a : Array Value) : zStr E (U.calling g mk a) := ⟨fun C hC => (h.1 C hC).moved (Vm.Alike.refl U.vm), h.2.blind g mk a⟩
/-- what lies outside and is only read: links of nest mates, static arrays of ints, texts -/
def zEx (E : zE) (U : State) : Prop :=
  (∀ q ∈ zNestM, va_Nw (.methodLinkNest q.1 q.2.1 q.2.2.1 q.2.2.2) U) ∧ (∀ q ∈ zNestF, va_Nw (.fieldLinkNest q.1 q.2.1 q.2.2.1 q.2.2.2.1 q.2.2.2.2.1 q.2.2.2.2.2) U) ∧
  (∀ q ∈ zOuts, va_Z q.1 q.2.1 "[I" (.ref (E.2.2.2.2.1 q.2.2.1)) (zAs E) U U.heap ∧ va_T .int (E.2.2.2.2.1 q.2.2.1) q.2.2.2.length (fun j => .int (Int32.ofInt (q.2.2.2.getD j 0))) (zAs E) U U.heap) ∧ zStr E U ∧ (va_X (E.2.2.2.2.1 100) E.2.2.2.2.2.1 E.2.2.2.2.2.2 U U.heap ∧ E.2.2.2.2.1 100 < E.2.2.2.1)
theorem zEx.pass {E : zE} {s U : State} {H : Heap} {locs : List Loc} (h : zEx E s) (hW : s.WarmedH U.vm) (hU : U.heap = H) (hS : va_S (zAs E) s.heap H locs) (hB : E.2.2.2.1 ≤ s.heap.size) : zEx E U := by
  obtain ⟨h1, h2, h3, h4, h5, h6⟩ := h
  refine ⟨fun q hq => (h1 q hq).warmM hW, fun q hq => (h2 q hq).warmF hW, fun q hq => ⟨?_, ?_⟩, h4.pass hW (fun a ha hn => by rw [hU]; exact hS.2.1 a ha hn), (h5.moved hW.alike).kept (by rw [hU]; exact hS.2.1 _ (by omega) (fun h => absurd h6 (Nat.not_lt.mpr h))), h6⟩
  · rw [hU]
    exact ((h3 q hq).1.moved hW.alike).kept hS.2.1
  · rw [hU]
    exact ((h3 q hq).2.moved hW.alike).kept hS.2.1
theorem zEx.blind {E : zE} {U : State} (h : zEx E U) (g : JFrame) (mk : MethodId) (a : Array Value) : zEx E (U.calling g mk a) := by
  obtain ⟨h1, h2, h3, h4, h5, h6⟩ := h
  exact ⟨fun q hq => (h1 q hq).same rfl rfl, fun q hq => (h2 q hq).same rfl rfl, fun q hq => ⟨va_Z.moved (Vm.Alike.refl U.vm) (h3 q hq).1, va_T.moved (Vm.Alike.refl U.vm) (h3 q hq).2⟩, h4.blind g mk a, va_X.moved (Vm.Alike.refl U.vm) h5, h6⟩
def zCx (E : zE) (d : zD) (p : Program) (s : State) (m : MethodId) (args : Array Value) (meth : Method) (c : Code) : Prop :=
  p.tables.exec = Jvm.exec ∧ c.code = d.2.1 ∧ c.maxLocals = d.2.2.1 ∧ s.vm.findClass d.2.2.2.2.1 = some m.cls ∧ (∀ w ∈ zT, w.before args s = true) ∧ meth.sig.returnType = d.2.2.2.1 ∧ meth.locks = false ∧ va_K E.2.1 vwCl (ztys E) s ∧ E.2.2.2.1 ≤ s.heap.size ∧ zEx E s ∧ (d.1.name = "<init>" → meth.name = "<init>")
/-- the heap holds the memory -/
def zH (E : zE) (N : zN) (M : zM) (H : Heap) : Prop := va_P E.2.1 vwCl (zw E N M) H
/-- while cells are made, all that came since the first address is known -/
def zSz (E : zE) (N : zN) (cu : Nat) (s : State) : Prop := N.2.2 = true → s.heap.size + cu = E.2.2.2.1 + N.1.length
def zQc (E : zE) (d : zD) (Q : Int → zN → zM → Prop) : Array Value → State → Outcome → State → Prop := fun _ st o t =>
  ∃ (r : Int) (N' : zN) (M' : zM), Q r N' M' ∧ o = .returned (zro E d.2.2.2.1 r) ∧ zH E N' M' t.heap ∧ va_F (zAs E) st t
def zA (E : zE) (N : zN) (cu : Nat × Nat) (d : zD) (pc : Nat) (al : List (Nat × zV)) (st : List zV) (M : zM) (Q : Int → zN → zM → Prop) : Prop :=
  ∀ (p : Program) (e : Env) (s : State) (m : MethodId) (args : Array Value) (below : List Frame) (meth : Method) (c : Code) (H : Heap) (locs : List Loc) (ls : Array Slot),
    zCx E d p s m args meth c ∧ zSz E N cu.1 s → zH E N M H → va_S (zAs E) s.heap H locs → lv_has ls d.2.2.1 (al.map fun q => (q.1, zv E q.2)) →
    W p E.1 e d.2.2.2.2.2.1 s m args below meth c H locs cu.1 cu.2 (MQ below (zQc E d Q) args s d.2.2.2.2.2.2.1 d.2.2.2.2.2.2.2 (zAs E)) (F0 m pc ls (st.map (zv E)))
def zPre (E : zE) (N : zN) (M : zM) (U : State) : Prop := zH E N M U.heap ∧ va_K E.2.1 vwCl (ztys E) U ∧ E.2.2.2.1 ≤ U.heap.size ∧ zEx E U ∧ zSz E N 0 U
/-- a method's contract: from the memory M it returns r and leaves M', and Q r N' M' -/
def zC (E : zE) (N : zN) (d : zD) (args : List zV) (M : zM) (Q : Int → zN → zM → Prop) : Prop :=
  Met E.1 d.1 (zws d) d.2.2.2.2.2.1 (va_Pc (args.map (zv E)) (zPre E N M)) (zQc E d Q) d.2.2.2.2.2.2.1 d.2.2.2.2.2.2.2 (zAs E)
def zargs : Nat → List zV → List (Nat × zV)
  | _, [] => []
  | i, .inl x :: vs => (i, .inl x) :: zargs (i + 1) vs
  | i, .inr (.inl x) :: vs => (i, .inr (.inl x)) :: zargs (i + 2) vs
  | i, .inr (.inr x) :: vs => (i, .inr (.inr x)) :: zargs (i + 1) vs
def zcat : zV → Nat
  | .inr (.inl _) => 2
  | _ => 1
theorem zrf_cat (o : Option Nat) : (va_rf o).category = 1 := by cases o <;> rfl
theorem zv_cat (E : zE) (v : zV) : (zv E v).category = zcat v := by
  match v with
  | .inl x => rfl
  | .inr (.inl x) => rfl
  | .inr (.inr r) => exact zrf_cat _
theorem zargs_rep (E : zE) : ∀ (i : Nat) (vs : List zV), (zargs i vs).map (fun q => (q.1, zv E q.2)) = lv_args i (vs.map (zv E))
  | _, [] => rfl
  | i, .inl x :: vs => by
    show (i, zv E (.inl x)) :: _ = (i, zv E (.inl x)) :: lv_args (if (zv E (.inl x)).category = 2 then i + 2 else i + 1) (vs.map (zv E))
    rw [zv_cat, zargs_rep E (i + 1) vs]; rfl
  | i, .inr (.inl x) :: vs => by
    show (i, zv E (.inr (.inl x))) :: _ = (i, zv E (.inr (.inl x))) :: lv_args (if (zv E (.inr (.inl x))).category = 2 then i + 2 else i + 1) (vs.map (zv E))
    rw [zv_cat, zargs_rep E (i + 2) vs]; rfl
  | i, .inr (.inr x) :: vs => by
    show (i, zv E (.inr (.inr x))) :: _ = (i, zv E (.inr (.inr x))) :: lv_args (if (zv E (.inr (.inr x))).category = 2 then i + 2 else i + 1) (vs.map (zv E))
    rw [zv_cat, zargs_rep E (i + 1) vs]; rfl
theorem zw_get (E : zE) (N : zN) (M : zM) {i : Nat} {kd : Nat × Nat} (h : N.1[i]? = some kd) : (zw E N M)[i]? = some (E.2.2.2.1 + i, zent E N M i kd) := by
  have hi : i < N.1.length := (List.getElem?_eq_some_iff.mp h).1
  unfold zw
  rw [List.getElem?_map, List.getElem?_range hi]
  simp [h]
theorem zw_D (E : zE) (N : zN) (M : zM) : va_D (zAs E) (zw E N M) := by
  have hx : ∀ (k : Nat) (q : Nat × va_E), (zw E N M)[k]? = some q → q.1 = E.2.2.2.1 + k := by
    intro k q h
    unfold zw at h
    rw [List.getElem?_map] at h
    cases hr : (List.range N.1.length)[k]? with
    | none => rw [hr] at h; cases h
    | some j =>
      rw [hr] at h
      have hj : j = k := by
        have := List.getElem?_eq_some_iff.mp hr
        obtain ⟨h1, h2⟩ := this
        simp at h2
        exact h2.symm
      cases h
      rw [hj]
  refine ⟨fun i j p q hp hq he => ?_, fun k q h => ?_⟩
  · have h1 := hx i p hp
    have h2 := hx j q hq
    omega
  · rw [hx k q h]
    exact Nat.le_add_right _ _
theorem zH.D {E : zE} {N : zN} {M : zM} {H : Heap} (_ : zH E N M H) : va_D (zAs E) (zw E N M) := zw_D E N M
