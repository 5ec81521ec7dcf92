/-! rules of the abstract machine: what is made; nest mates; what lies outside -/
def zdef (kd : Nat × Nat) : Nat → Int := fun j => if kd.1 < 100 then (match zty kd.1 j with | .object _ => -1 | .array _ => -1 | _ => 0) else if kd.1 < 103 then 0 else -1
def zal (M : zM) (n : Nat) (kd : Nat × Nat) : zM := fun x => if x = n then zdef kd else M x
def zNx (N : zN) (kd : Nat × Nat) : zN := (N.1 ++ [kd], N.2.1, N.2.2)
theorem zal_ne (M : zM) {n x : Nat} (kd : Nat × Nat) (h : x ≠ n) : zal M n kd x = M x := by
  unfold zal
  rw [if_neg h]
theorem zal_eq (M : zM) (n : Nat) (kd : Nat × Nat) : zal M n kd n = zdef kd := by
  unfold zal
  rw [if_pos rfl]
theorem zw_push (E : zE) (N : zN) (M : zM) (kd : Nat × Nat) : zw E N M ++ [(E.2.2.2.1 + N.1.length, zent E (zNx N kd) (zal M N.1.length kd) N.1.length kd)] = zw E (zNx N kd) (zal M N.1.length kd) := by
  unfold zw
  show _ = (List.range (N.1 ++ [kd]).length).map _
  rw [List.length_append, List.length_singleton, List.range_succ, List.map_append, List.map_singleton]
  congr 1
  · apply List.map_congr_left
    intro i hi
    have hi := List.mem_range.mp hi
    have h1 : (zNx N kd).1.getD i (0, 0) = N.1.getD i (0, 0) := by
      show (N.1 ++ [kd]).getD i (0, 0) = _
      rw [List.getD_eq_getElem?_getD, List.getD_eq_getElem?_getD, List.getElem?_append_left hi]
    rw [h1]
    congr 1
    unfold zent zg
    rw [zal_ne M kd (Nat.ne_of_lt hi)]
    rfl
  · have h1 : (zNx N kd).1.getD N.1.length (0, 0) = kd := by
      show (N.1 ++ [kd]).getD N.1.length (0, 0) = _
      rw [List.getD_eq_getElem?_getD, List.getElem?_append_right (Nat.le_refl _)]
      simp
    rw [h1]
def zTk (ty : FieldType) : Bool := match ty with
  | .int => true
  | .boolean => true
  | .long => true
  | .object _ => true
  | .array _ => true
  | _ => false
theorem zrf_m1 (E : zE) : zrf E (-1) = none := by
  unfold zrf
  rw [if_pos rfl]
theorem crun_of {p : Program} {l : Launch} {e : Env} {R : Room} {s : State} {m : MethodId} {args : Array Value} {below : List Frame} {meth : Method} {c : Code} {H : Heap} {locs : List Loc} {cells slots mc ms : Nat} {g : JFrame} {rest : List Value} {Qa : State → Outcome → State → Prop} {free : Addr → Prop} (h : va_Run p l e R s m args below meth c H locs cells slots mc ms g rest Qa free) : CallRun p l e R s m args below meth c H locs cells slots mc ms g rest Qa free := by
  intro T hT X
  obtain ⟨v, st₀, t, T', L, h1, h2, h3, h4, -, h5, h6⟩ := h T hT X
  exact ⟨v, st₀, t, T', L, h1, h2, h3, h4, h5, h6⟩
section zr
variable {E : zE} {N : zN} {cu : Nat × Nat} {d : zD} {pc pc' : Nat} {al al' : List (Nat × zV)} {st : List zV} {M : zM} {Q : Int → zN → zM → Prop}
theorem zr_new {ci nf idx : Nat} {C : String} {T : u_T} (hd : decode d.2.1 pc = .ok (.new idx, 3)) (hp : pc + 3 = pc') (hcm : N.2.2 = true) (hfn : N.2.1 = fun _ _ => none) (hc : zKc ci) (h1 : vwCl[ci]? = some (C, T, nf)) (hok : ∀ j, j < nf → zTk (zty ci j) = true) (w1 : Cond.classLink d.2.2.2.2.1 idx C ∈ zT) (w2 : Cond.instantiable C nf ∈ zT) (w3 : Cond.initialized C ∈ zT) (hcu : cu.1 + 1 ≤ d.2.2.2.2.2.1.cells ∧ cu.2 + nf ≤ d.2.2.2.2.2.1.slots)
    (k : zA E (zNx N (ci, 0)) (cu.1 + 1, cu.2 + nf) d pc' al (.inr (.inr (N.1.length : Int)) :: st) (zal M N.1.length (ci, 0)) Q) : zA E N cu d pc al st M Q := by
  subst hp
  intro p e s m args below meth c H locs ls hC hH hS hl T0 hT0 X0
  have hsz : H.size = E.2.2.2.1 + N.1.length := by
    rw [← hT0]
    exact zsize X0 (by rw [hT0]; exact hH) hC.1.2.2.2.2.2.2.2.2.1 (hC.2 hcm)
  obtain ⟨C', T', nf', h1', h3, h4, h5, h6, h7⟩ := hc
  rw [h1] at h1'
  cases h1'
  have hts := hC.1.2.2.2.2.1
  have hK := hC.1.2.2.2.2.2.2.2.1
  have hKn := hK.1 ci _ h1
  suffices key : W p E.1 e d.2.2.2.2.2.1 s m args below meth c H locs cu.1 cu.2 (MQ below (zQc E d Q) args s d.2.2.2.2.2.2.1 d.2.2.2.2.2.2.2 (zAs E)) (F0 m pc ls (st.map (zv E))) from key T0 hT0 X0
  refine W.newcK hC.1.1 hC.1.2.1 hC.1.2.2.2.1 (hts _ w1) (hts _ w2) (hts _ w3) rfl hd hcu.1 hcu.2 hKn.2.1 hsz (fun H1 kC hkC e1 z1 o1 => ?_)
  have hP1 : va_P E.2.1 vwCl (zw E N M) H1 := hH.kept (fun k x hx => o1 x.1 (by have := (hH k x hx).lt; omega))
  have hnew : va_P E.2.1 vwCl [(E.2.2.2.1 + N.1.length, zent E (zNx N (ci, 0)) (zal M N.1.length (ci, 0)) N.1.length (ci, 0))] H1 := by
    intro k x hx
    have hz : k < 1 := (List.getElem?_eq_some_iff.mp hx).1
    rw [show k = 0 by omega] at hx
    cases hx
    rw [zent_ob E _ _ _ h3]
    refine ⟨_, h1, (u_born (zty ci) hts h5 hKn hkC e1 h6).to (fun j hj => ?_)⟩
    unfold vp_V
    rw [List.getD_eq_getElem?_getD, List.getElem?_map, List.getElem?_range (by rw [h4]; exact hj)]
    show defaultValue (zty ci j) = zfv E (zty ci j) (zg (zNx N (ci, 0)) (zal M N.1.length (ci, 0)) N.1.length j)
    have hg : zg (zNx N (ci, 0)) (zal M N.1.length (ci, 0)) N.1.length j = zdef (ci, 0) j := by
      unfold zg zNx
      rw [hfn, zal_eq]
      rfl
    rw [hg]
    unfold zdef
    rw [if_pos h3]
    have ht := hok j hj
    show defaultValue (zty ci j) = zfv E (zty ci j) (match zty ci j with | .object _ => -1 | .array _ => -1 | _ => 0)
    revert ht
    cases zty ci j <;> intro ht <;> first | rfl | (show Value.null = va_rf (zrf E (-1)); rw [zrf_m1]; rfl) | cases ht
  have hP2 := hP1.app hnew
  rw [zw_push] at hP2
  have hl2 : zv E (.inr (.inr (N.1.length : Int))) = .ref (E.2.2.2.1 + N.1.length) := by
    rw [zv_ref E (by omega)]
    rfl
  have kk := k p e s m args below meth c H1 locs ls ⟨hC.1, fun h => by
    have h9 := hC.2 hcm
    show s.heap.size + (cu.1 + 1) = E.2.2.2.1 + (N.1 ++ [(ci, 0)]).length
    rw [List.length_append, List.length_singleton]
    omega⟩ hP2 ⟨Nat.le_trans hS.1 (by omega), fun x g1 g2 => (o1 x (by have := hS.1; omega)).trans (hS.2.1 x g1 g2), hS.2.2⟩ hl
  rw [List.map_cons, hl2] at kk
  exact kk
theorem zr_newa {t n : Nat} {at_ : ArrayType} {ty : FieldType} {t0 : Nat} (hd : decode d.2.1 pc = .ok (.newarray at_, 2)) (hp : pc + 2 = pc') (hcm : N.2.2 = true) (hty : newarray.typeOf at_ = ty) (h100 : t = 100 ∧ ty = .int ∨ t = 101 ∧ ty = .long ∨ t = 102 ∧ ty = .boolean) (ht0 : ∀ E : zE, (ztys E)[t0]? = some (E.2.2.1 t, ty)) (w1 : Cond.arrayClass ty ∈ zT) (hn : n * 8 ≤ 536870912) (hcu : cu.1 + 1 ≤ d.2.2.2.2.2.1.cells ∧ cu.2 + n ≤ d.2.2.2.2.2.1.slots)
    (k : zA E (zNx N (t, n)) (cu.1 + 1, cu.2 + n) d pc' al (.inr (.inr (N.1.length : Int)) :: st) (zal M N.1.length (t, n)) Q) : zA E N cu d pc al (.inl (n : Int) :: st) M Q := by
  subst hp hty
  intro p e s m args below meth c H locs ls hC hH hS hl T0 hT0 X0
  have hsz : H.size = E.2.2.2.1 + N.1.length := by
    rw [← hT0]
    exact zsize X0 (by rw [hT0]; exact hH) hC.1.2.2.2.2.2.2.2.2.1 (hC.2 hcm)
  have hts := hC.1.2.2.2.2.1
  have hK := hC.1.2.2.2.2.2.2.2.1
  have hnn : zR (n : Int) := ⟨by omega, by omega⟩
  have hcl : (Int32.ofInt (n : Int)).toNatClampNeg = n := by rw [zcl (by omega) (by omega)]; rfl
  have hb8 : componentBytes (newarray.typeOf at_) ≤ 8 := by
    rcases h100 with ⟨-, h⟩ | ⟨-, h⟩ | ⟨-, h⟩ <;> rw [h] <;> decide
  suffices key : W p E.1 e d.2.2.2.2.2.1 s m args below meth c H locs cu.1 cu.2 (MQ below (zQc E d Q) args s d.2.2.2.2.2.2.1 d.2.2.2.2.2.2.2 (zAs E)) (F0 m pc ls (zv E (.inl (n : Int)) :: st.map (zv E))) from key T0 hT0 X0
  refine va_newaK hC.1.1 hC.1.2.1 (hts _ w1) rfl hd rfl (by rw [zlt0 hnn]; omega) hcl (Nat.le_trans (Nat.mul_le_mul_left n hb8) hn) hcu.1 hcu.2 hsz (fun H1 cA e1 z1 o1 hAr hfc => ?_)
  have hK2 := hK.2 t0 _ (ht0 E)
  have hcA : cA = E.2.2.1 t := by
    have h2 := hK2.2
    rcases h100 with ⟨-, h⟩ | ⟨-, h⟩ | ⟨-, h⟩ <;> rw [h] at h2 hfc <;> exact Option.some.inj (hfc.symm.trans h2)
  subst hcA
  have hP1 : va_P E.2.1 vwCl (zw E N M) H1 := hH.kept (fun k x hx => o1 x.1 (by have := (hH k x hx).lt; omega))
  have hnew : va_P E.2.1 vwCl [(E.2.2.2.1 + N.1.length, zent E (zNx N (t, n)) (zal M N.1.length (t, n)) N.1.length (t, n))] H1 := by
    intro k x hx
    have hz : k < 1 := (List.getElem?_eq_some_iff.mp hx).1
    rw [show k = 0 by omega] at hx
    cases hx
    rcases h100 with ⟨rfl, h⟩ | ⟨rfl, h⟩ | ⟨rfl, h⟩
    · rw [zent_int, zal_eq]
      rw [h] at e1
      exact e1
    · rw [zent_long, zal_eq]
      rw [h] at e1
      exact e1
    · rw [zent_bool, zal_eq]
      rw [h] at e1
      exact e1
  have hP2 := hP1.app hnew
  rw [zw_push] at hP2
  have hl2 : zv E (.inr (.inr (N.1.length : Int))) = .ref (E.2.2.2.1 + N.1.length) := by
    rw [zv_ref E (by omega)]
    rfl
  have kk := k p e s m args below meth c H1 locs ls ⟨hC.1, fun h => by
    have h9 := hC.2 hcm
    show s.heap.size + (cu.1 + 1) = E.2.2.2.1 + (N.1 ++ [(t, n)]).length
    rw [List.length_append, List.length_singleton]
    omega⟩ hP2 ⟨Nat.le_trans hS.1 (by omega), fun x g1 g2 => (o1 x (by have := hS.1; omega)).trans (hS.2.1 x g1 g2), hS.2.2⟩ hl
  rw [List.map_cons, hl2] at kk
  exact kk
theorem zr_newq {t n idx t0 : Nat} {C : String} (hd : decode d.2.1 pc = .ok (.anewarray idx, 3)) (hp : pc + 3 = pc') (hcm : N.2.2 = true) (ht : 103 ≤ t) (ht0 : ∀ E : zE, (ztys E)[t0]? = some (E.2.2.1 t, .object C)) (w1 : Cond.classLink d.2.2.2.2.1 idx C ∈ zT) (w2 : C ∈ zAos) (hn : n * 4 ≤ 536870912) (hcu : cu.1 + 1 ≤ d.2.2.2.2.2.1.cells ∧ cu.2 + n ≤ d.2.2.2.2.2.1.slots)
    (k : zA E (zNx N (t, n)) (cu.1 + 1, cu.2 + n) d pc' al (.inr (.inr (N.1.length : Int)) :: st) (zal M N.1.length (t, n)) Q) : zA E N cu d pc al (.inl (n : Int) :: st) M Q := by
  subst hp
  intro p e s m args below meth c H locs ls hC hH hS hl T0 hT0 X0
  have hsz : H.size = E.2.2.2.1 + N.1.length := by
    rw [← hT0]
    exact zsize X0 (by rw [hT0]; exact hH) hC.1.2.2.2.2.2.2.2.2.1 (hC.2 hcm)
  have hts := hC.1.2.2.2.2.1
  have hK := hC.1.2.2.2.2.2.2.2.1
  have hnn : zR (n : Int) := ⟨by omega, by omega⟩
  have hcl : (Int32.ofInt (n : Int)).toNatClampNeg = n := by rw [zcl (by omega) (by omega)]; rfl
  suffices key : W p E.1 e d.2.2.2.2.2.1 s m args below meth c H locs cu.1 cu.2 (MQ below (zQc E d Q) args s d.2.2.2.2.2.2.1 d.2.2.2.2.2.2.2 (zAs E)) (F0 m pc ls (zv E (.inl (n : Int)) :: st.map (zv E))) from key T0 hT0 X0
  refine W.anew hC.1.1 hC.1.2.1 hC.1.2.2.2.1 (hts _ w1) (va_AO.use (hC.1.2.2.2.2.2.2.2.2.2.1.2.2.2.1.1 C w2)) rfl hd rfl (by rw [zlt0 hnn]; omega) (by rw [hcl]; exact hn) hcu.1 (by rw [hcl]; exact hcu.2) (fun cA kA comp f1 f2 f3 f4 => ?_)
  rw [hcl]
  have hK2 := (hK.2 t0 _ (ht0 E)).2
  obtain ⟨-, -, -, -, -, hfc⟩ := hK2
  have hcA : cA = E.2.2.1 t := Option.some.inj (f1.symm.trans hfc)
  subst hcA
  generalize hH1 : H.push ({ cls := E.2.2.1 t, slots := Array.replicate n .null, vm := .none } : Cell) = H1
  have z1 : H1.size = H.size + 1 := by rw [← hH1, Array.size_push]
  have e1 : H1[H.size]? = some (arrV (E.2.2.1 t) n (fun _ => .null)) := by rw [← hH1, Array.getElem?_push_size, ← arrV_new]
  have o1 : ∀ q : Nat, q < H.size → H1[q]? = H[q]? := fun q hq => by rw [← hH1, Array.getElem?_push, if_neg (Nat.ne_of_lt hq)]
  have hP1 : va_P E.2.1 vwCl (zw E N M) H1 := hH.kept (fun k x hx => o1 x.1 ((hH k x hx).lt))
  have hnew : va_P E.2.1 vwCl [(E.2.2.2.1 + N.1.length, zent E (zNx N (t, n)) (zal M N.1.length (t, n)) N.1.length (t, n))] H1 := by
    intro k x hx
    have hz : k < 1 := (List.getElem?_eq_some_iff.mp hx).1
    rw [show k = 0 by omega] at hx
    cases hx
    rw [zent_ref E _ _ _ _ ht, zal_eq]
    show H1[E.2.2.2.1 + N.1.length]? = some (vp_cell _ _)
    rw [vp_cell_q, ← hsz, e1]
    congr 2
    funext j
    unfold zdef
    rw [if_neg (by show ¬ t < 100; omega), if_neg (by show ¬ t < 103; omega), zrf_m1]
    rfl
  have hP2 := hP1.app hnew
  rw [zw_push] at hP2
  have hl2 : zv E (.inr (.inr (N.1.length : Int))) = .ref H.size := by
    rw [zv_ref E (by omega), hsz]
    rfl
  have kk := k p e s m args below meth c H1 locs ls ⟨hC.1, fun h => by
    have h9 := hC.2 hcm
    show s.heap.size + (cu.1 + 1) = E.2.2.2.1 + (N.1 ++ [(t, n)]).length
    rw [List.length_append, List.length_singleton]
    omega⟩ hP2 ⟨Nat.le_trans hS.1 (by omega), fun x g1 g2 => (o1 x (by have := hS.1; omega)).trans (hS.2.1 x g1 g2), hS.2.2⟩ hl
  rw [List.map_cons, hl2] at kk
  exact kk
theorem zr_objInit {a : Int} {idx : Nat} (hd : decode d.2.1 pc = .ok (.invokespecial idx, 3)) (hp : pc + 3 = pc') (ha : 0 ≤ a) (w1 : Cond.methodLink d.2.2.2.2.1 idx Lib.objectInit ∈ zT) (w2 : Cond.instanceMethod Lib.objectInit ∈ zT) (w3 : Cond.code Lib.objectInit ⟨#[0xb1]⟩ 1 none ∈ zT) (h1 : 1 ≤ d.2.2.2.2.2.1.frames) (h2 : (st.map zcat).sum + 12 ≤ d.2.2.2.2.2.1.locals) (k : zA E N cu d pc' al st M Q) : zA E N cu d pc al (.inr (.inr a) :: st) M Q := by
  subst hp
  intro p e s m args below meth c H locs ls hC hH hS hl
  have hts := hC.1.2.2.2.2.1
  rw [List.map_cons, zv_ref E ha]
  refine W.objInit hC.1.1 hC.1.2.1 hC.1.2.2.2.1 (hts _ w1) (hts _ w2) (hts _ w3) rfl (by rw [hC.1.2.2.1]; exact hl.1) rfl hd h1 ?_ (k p e s m args below meth c H locs ls hC hH hS hl)
  show 2 * 0 + _ + 12 ≤ _
  rw [zcat_sum]
  omega
end zr
