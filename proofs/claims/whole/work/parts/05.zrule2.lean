/-! rules of the abstract machine: memory -/
def zfV (ty : FieldType) (x : Int) : zV := match ty with
  | .long => .inr (.inl x)
  | .object _ => .inr (.inr x)
  | .array _ => .inr (.inr x)
  | _ => .inl x
theorem zfV_rep (E : zE) (ty : FieldType) (x : Int) : zv E (zfV ty x) = zfv E ty x := by
  cases ty <;> rfl
def zOk (ty : FieldType) (x : Int) : Prop := match ty with
  | .boolean => x = 0 ∨ x = 1
  | .int => True
  | .long => True
  | .object _ => True
  | .array _ => True
  | .byte => x = 0
  | .char => 0 ≤ x ∧ x ≤ 127
  | _ => False
theorem zch : ∀ n : Fin 128, narrow .char (.int (Int32.ofInt ((n : Nat) : Int))) = .int (Int32.ofInt ((n : Nat) : Int)) ∧ fits .char (.int (Int32.ofInt ((n : Nat) : Int))) = true := by decide +kernel
theorem zOk_rep (E : zE) {ty : FieldType} {x : Int} (h : zOk ty x) : narrow ty (zfv E ty x) = zfv E ty x ∧ fits ty (zfv E ty x) = true := by
  cases ty with
  | boolean =>
    rcases h with rfl | rfl
    · exact ⟨rfl, rfl⟩
    · exact ⟨rfl, rfl⟩
  | int => exact ⟨rfl, rfl⟩
  | long => exact ⟨rfl, rfl⟩
  | object C => exact ⟨by unfold zfv; cases zrf E x <;> rfl, by unfold zfv; cases zrf E x <;> rfl⟩
  | array C => exact ⟨by unfold zfv; cases zrf E x <;> rfl, by unfold zfv; cases zrf E x <;> rfl⟩
  | byte =>
    have h0 : x = 0 := h
    subst h0
    exact ⟨rfl, rfl⟩
  | char =>
    have h0 : 0 ≤ x ∧ x ≤ 127 := h
    have h1 := zch ⟨x.toNat, by omega⟩
    have e1 : ((x.toNat : Nat) : Int) = x := by omega
    simp only [e1] at h1
    exact h1
  | _ => exact h.elim
theorem zrf_pos (E : zE) {a : Int} (h : 0 ≤ a) : zrf E a = some (E.2.2.2.1 + a.toNat) := by
  unfold zrf
  rw [if_neg (by omega), if_neg (by omega)]
theorem zv_ref (E : zE) {a : Int} (h : 0 ≤ a) : zv E (.inr (.inr a)) = .ref (E.2.2.2.1 + a.toNat) := by
  show va_rf (zrf E a) = _
  rw [zrf_pos E h]; rfl
/-- a field's link: class and place -/
def zFl (own : String) (idx ci j : Nat) : Prop := ∃ (C : String) (T : u_T) (Nf : Nat), vwCl[ci]? = some (C, T, Nf) ∧ j < Nf ∧ Cond.fieldLink own idx (T j).1 (T j).2.1 (T j).2.2.1 ∈ zT
/-- what the tables say of a class's fields -/
def zKc (ci : Nat) : Prop := ∃ (C : String) (T : u_T) (Nf : Nat), vwCl[ci]? = some (C, T, Nf) ∧ ci < 100 ∧ znf ci = Nf ∧ (∀ w ∈ u_ws C T Nf, w ∈ zT) ∧ (∀ k, k < Nf → parseFieldDescriptor (T k).2.2.1 = some (zty ci k)) ∧ (∀ a, a < Nf → ∀ b, b < Nf → a ≠ b → (T a).2.1 ≠ (T b).2.1)
def zfin (ci j : Nat) : Bool := ((vwCl.getD ci ("", (fun _ => ("", "", "", false)), 0)).2.1 j).2.2.2
def zdcl (ci j : Nat) : String := ((vwCl.getD ci ("", (fun _ => ("", "", "", false)), 0)).2.1 j).1
theorem zent_ob (E : zE) (N : zN) (M : zM) (i : Nat) {ci n : Nat} (h : ci < 100) : zent E N M i (ci, n) = .inr (ci, (List.range (znf ci)).map (fun j => zfv E (zty ci j) (zg N M i j))) := by
  unfold zent
  rw [if_pos h]
theorem zent_int (E : zE) (N : zN) (M : zM) (i n : Nat) : zent E N M i (100, n) = .inl (E.2.2.1 100, n, .inl (fun j => Int32.ofInt (M i j))) := by
  unfold zent
  simp
theorem zent_bool (E : zE) (N : zN) (M : zM) (i n : Nat) : zent E N M i (102, n) = .inl (E.2.2.1 102, n, .inl (fun j => Int32.ofInt (M i j))) := by
  unfold zent
  simp
theorem zent_long (E : zE) (N : zN) (M : zM) (i n : Nat) : zent E N M i (101, n) = .inl (E.2.2.1 101, n, .inr (.inl (fun j => Int64.ofInt (M i j)))) := by
  unfold zent
  simp
theorem zent_ref (E : zE) (N : zN) (M : zM) (i n : Nat) {t : Nat} (h : 103 ≤ t) : zent E N M i (t, n) = .inl (E.2.2.1 t, n, .inr (.inr (.inr (.inr (fun j => zrf E (M i j)))))) := by
  unfold zent
  rw [if_neg (by show ¬ t < 100; omega), if_neg (by show ¬ t = 101; omega), if_neg (by show ¬ t < 103; omega)]
theorem zup_ne (M : zM) {a x : Nat} (i : Nat) (v : Int) (h : x ≠ a) : zup M a i v x = M x := by
  unfold zup
  rw [if_neg h]
theorem zup_eq (M : zM) (a i : Nat) (v : Int) : zup M a i v a = fun y => if y = i then v else M a y := by
  unfold zup
  rw [if_pos rfl]
theorem zent_ne (E : zE) (N : zN) (M : zM) {a k : Nat} (i : Nat) (v : Int) (h : k ≠ a) (kd : Nat × Nat) : zent E N (zup M a i v) k kd = zent E N M k kd := by
  unfold zent zg
  rw [zup_ne M i v h]
/-- a write, in the list of cells -/
theorem zw_set (E : zE) (N : zN) (M : zM) {a : Nat} {kd : Nat × Nat} (i : Nat) (v : Int) {e : va_E} (hk : N.1[a]? = some kd) (he : zent E N (zup M a i v) a kd = e) : (zw E N M).set a (E.2.2.2.1 + a, e) = zw E N (zup M a i v) := by
  apply List.ext_getElem?
  intro k
  rw [List.getElem?_set]
  by_cases hka : a = k
  · subst hka
    have hl : a < (zw E N M).length := by
      unfold zw
      rw [List.length_map, List.length_range]
      exact (List.getElem?_eq_some_iff.mp hk).1
    rw [if_pos rfl, if_pos hl, zw_get E N _ hk, he]
  · rw [if_neg hka]
    unfold zw
    rw [List.getElem?_map, List.getElem?_map]
    cases hr : (List.range N.1.length)[k]? with
    | none => rfl
    | some j =>
      have hj : j = k := by
        obtain ⟨h1, h2⟩ := List.getElem?_eq_some_iff.mp hr
        simp at h2
        exact h2.symm
      subst hj
      show some (E.2.2.2.1 + j, zent E N M j (N.1.getD j (0, 0))) = some (E.2.2.2.1 + j, zent E N (zup M a i v) j (N.1.getD j (0, 0)))
      rw [zent_ne E N M i v (fun h => hka h.symm)]
theorem zfl_has {own : String} {idx ci j : Nat} (h : zFl own idx ci j) (h2 : zKc ci) : ∃ (C : String) (T : u_T) (Nf : Nat), vwCl[ci]? = some (C, T, Nf) ∧ j < Nf ∧ Cond.fieldLink own idx (T j).1 (T j).2.1 (T j).2.2.1 ∈ zT ∧ ci < 100 ∧ znf ci = Nf ∧ (∀ w ∈ u_ws C T Nf, w ∈ zT) ∧ (∀ k, k < Nf → parseFieldDescriptor (T k).2.2.1 = some (zty ci k)) ∧ (∀ a, a < Nf → ∀ b, b < Nf → a ≠ b → (T a).2.1 ≠ (T b).2.1) ∧ (T j).2.2.2 = zfin ci j ∧ (T j).1 = zdcl ci j := by
  obtain ⟨C, T, Nf, h1, hj, hm⟩ := h
  obtain ⟨C', T', Nf', h1', h3, h4, h5, h6, h7⟩ := h2
  rw [h1] at h1'
  cases h1'
  have hg : vwCl.getD ci ("", (fun _ => ("", "", "", false)), 0) = (C, T, Nf) := by rw [List.getD_eq_getElem?_getD, h1]; rfl
  exact ⟨C, T, Nf, h1, hj, hm, h3, h4, h5, h6, h7, by unfold zfin; rw [hg], by unfold zdcl; rw [hg]⟩
theorem zw_put (E : zE) (N : zN) (M : zM) {a ci n j : Nat} (hk : N.1[a]? = some (ci, n)) (h3 : ci < 100) (hN : N.2.1 a j = none) (x : Int) (hj : j < znf ci) : (zw E N M).set a (E.2.2.2.1 + a, .inr (ci, ((List.range (znf ci)).map (fun j => zfv E (zty ci j) (zg N M a j))).set j (zfv E (zty ci j) x))) = zw E N (zup M a j x) := by
  refine zw_set E N M (kd := (ci, n)) j x hk ?_
  rw [zent_ob E N _ _ h3]
  congr 2
  apply List.ext_getElem?
  intro i
  rw [List.getElem?_set, List.getElem?_map, List.getElem?_map, List.length_map, List.length_range]
  by_cases hi : j = i
  · subst hi
    rw [if_pos rfl, if_pos hj, List.getElem?_range hj]
    show some (zfv E (zty ci j) (zg N (zup M a j x) a j)) = _
    unfold zg
    rw [hN, zup_eq]
    simp
  · rw [if_neg hi]
    by_cases hr : i < znf ci
    · rw [List.getElem?_range hr]
      show some (zfv E (zty ci i) (zg N (zup M a j x) a i)) = some (zfv E (zty ci i) (zg N M a i))
      unfold zg
      simp only [zup_eq]
      rw [if_neg (fun h : i = j => hi h.symm)]
    · rw [List.getElem?_eq_none (by rw [List.length_range]; omega)]
      rfl
section zr
variable {E : zE} {N : zN} {cu : Nat × Nat} {d : zD} {pc pc' : Nat} {al al' : List (Nat × zV)} {st : List zV} {M : zM} {Q : Int → zN → zM → Prop}
theorem zr_get {a : Int} {idx ci j n : Nat} {v : zV} (hd : decode d.2.1 pc = .ok (.getfield idx, 3)) (hp : pc + 3 = pc') (ha : 0 ≤ a) (hk : N.1[a.toNat]? = some (ci, n)) (hF : zFl d.2.2.2.2.1 idx ci j) (hc : zKc ci) (hv : zfV (zty ci j) (zg N M a.toNat j) = v) (k : zA E N cu d pc' al (v :: st) M Q) : zA E N cu d pc al (.inr (.inr a) :: st) M Q := by
  subst hp hv
  intro p e s m args below meth c H locs ls hC hH hS hl
  have k := k p e s m args below meth c H locs ls hC hH hS hl
  obtain ⟨C, T, Nf, h1, hj, hm, h3, h4, h5, h6, h7, -, -⟩ := zfl_has hF hc
  have hw := zw_get E N M hk
  rw [zent_ob E N M _ h3] at hw
  rw [List.map_cons, zfV_rep] at k
  rw [List.map_cons, zv_ref E ha]
  refine va_get (ws := zw E N M) hC.1.1 hC.1.2.1 hC.1.2.2.2.2.1 h5 hC.1.2.2.2.1 hC.1.2.2.2.2.2.2.2.1 hH a.toNat hw h1 j hj (hC.1.2.2.2.2.1 _ hm) (fun _ h9 => h9) ?_ hd k
  rw [List.getElem?_map, List.getElem?_range (by rw [h4]; exact hj)]
  rfl
theorem zr_put {a : Int} {idx ci j n : Nat} {x : Int} {v : zV} (hd : decode d.2.1 pc = .ok (.putfield idx, 3)) (hp : pc + 3 = pc') (ha : 0 ≤ a) (hk : N.1[a.toNat]? = some (ci, n)) (hF : zFl d.2.2.2.2.1 idx ci j) (hc : zKc ci) (hfin : zfin ci j = false) (hN : N.2.1 a.toNat j = none) (hv : zfV (zty ci j) x = v) (hok : zOk (zty ci j) x) (k : ∀ M1, M1 = zup M a.toNat j x → zA E N cu d pc' al st M1 Q) : zA E N cu d pc al (v :: .inr (.inr a) :: st) M Q := by
  subst hp hv
  intro p e s m args below meth c H locs ls hC hH hS hl
  obtain ⟨C, T, Nf, h1, hj, hm, h3, h4, h5, h6, h7, h8, -⟩ := zfl_has hF hc
  have hw := zw_get E N M hk
  rw [zent_ob E N M _ h3] at hw
  rw [List.map_cons, List.map_cons, zv_ref E ha, zfV_rep]
  have hz := zOk_rep E hok
  refine va_put (ws := zw E N M) (A := zAs E) hC.1.1 hC.1.2.1 hC.1.2.2.2.2.1 h5 (zty ci) h6 h7 hC.1.2.2.2.1 hC.1.2.2.2.2.2.2.2.1 hH (zw_D E N M) hS a.toNat hw h1 j hj (hC.1.2.2.2.2.1 _ hm) (fun _ h9 => h9) (by rw [h8]; exact hfin) (h6 j hj) hz.1 hz.2 (by rw [List.length_map, List.length_range, h4]; exact hj) hd (fun H1 locs1 hP1 hD1 hS1 => ?_)
  rw [zw_put E N M hk h3 hN x (by rw [h4]; exact hj)] at hP1
  exact k _ rfl p e s m args below meth c H1 locs1 ls hC hP1 hS1 hl
theorem zfin_hyp {a : Int} (h : 0 ≤ a) : zv E (.inr (.inr a)) = .ref (E.2.2.2.1 + a.toNat) := zv_ref E h
/-- a final field, in a constructor -/
theorem zr_putF {a : Int} {idx ci j n : Nat} {x : Int} {v : zV} (hd : decode d.2.1 pc = .ok (.putfield idx, 3)) (hp : pc + 3 = pc') (ha : 0 ≤ a) (hk : N.1[a.toNat]? = some (ci, n)) (hF : zFl d.2.2.2.2.1 idx ci j) (hc : zKc ci) (hfin : zfin ci j = true) (hdc : zdcl ci j = d.2.2.2.2.1) (hini : d.1.name = "<init>") (hN : N.2.1 a.toNat j = none) (hv : zfV (zty ci j) x = v) (hok : zOk (zty ci j) x) (k : ∀ M1, M1 = zup M a.toNat j x → zA E N cu d pc' al st M1 Q) : zA E N cu d pc al (v :: .inr (.inr a) :: st) M Q := by
  subst hp hv
  intro p e s m args below meth c H locs ls hC hH hS hl
  obtain ⟨C, T, Nf, h1, hj, hm, h3, h4, h5, h6, h7, h8, h9⟩ := zfl_has hF hc
  have hw := zw_get E N M hk
  rw [zent_ob E N M _ h3] at hw
  rw [List.map_cons, List.map_cons, zv_ref E ha, zfV_rep]
  have hz := zOk_rep E hok
  refine va_putF (ws := zw E N M) (A := zAs E) hC.1.1 hC.1.2.1 hC.1.2.2.2.2.1 h5 (zty ci) h6 h7 hC.1.2.2.2.1 hC.1.2.2.2.2.2.2.2.1 hH (zw_D E N M) hS a.toNat hw h1 j hj (hC.1.2.2.2.2.1 _ hm) (fun _ h9 => h9) (by rw [h8]; exact hfin) (hC.1.2.2.2.2.2.2.2.2.2.2 hini) (h9.trans hdc) (h6 j hj) hz.1 hz.2 (by rw [List.length_map, List.length_range, h4]; exact hj) hd (fun H1 locs1 hP1 hD1 hS1 => ?_)
  rw [zw_put E N M hk h3 hN x (by rw [h4]; exact hj)] at hP1
  exact k _ rfl p e s m args below meth c H1 locs1 ls hC hP1 hS1 hl
theorem zr_iald {a i : Int} {n : Nat} (hd : decode d.2.1 pc = .ok (.iaload, 1)) (hp : pc + 1 = pc') (ha : 0 ≤ a) (hk : N.1[a.toNat]? = some (100, n)) (hn : n < 2147483648) (h0 : 0 ≤ i) (h1 : i < n) (k : zA E N cu d pc' al (.inl (M a.toNat i.toNat) :: st) M Q) : zA E N cu d pc al (.inl i :: .inr (.inr a) :: st) M Q := by
  subst hp
  intro p e s m args below meth c H locs ls hC hH hS hl
  have k := k p e s m args below meth c H locs ls hC hH hS hl
  have hw := zw_get E N M hk
  rw [zent_int] at hw
  rw [List.map_cons] at k
  rw [List.map_cons, List.map_cons, zv_ref E ha]
  have hz := zcl h0 (by omega)
  refine va_iald (ws := zw E N M) hC.1.1 hC.1.2.1 hC.1.2.2.2.2.2.2.2.1 hH a.toNat 0 hw rfl (zin h0 h1 hn) hd ?_
  simp only [hz]
  exact k
theorem zr_zald {a i : Int} {n : Nat} (hd : decode d.2.1 pc = .ok (.baload, 1)) (hp : pc + 1 = pc') (ha : 0 ≤ a) (hk : N.1[a.toNat]? = some (102, n)) (hn : n < 2147483648) (h0 : 0 ≤ i) (h1 : i < n) (k : zA E N cu d pc' al (.inl (M a.toNat i.toNat) :: st) M Q) : zA E N cu d pc al (.inl i :: .inr (.inr a) :: st) M Q := by
  subst hp
  intro p e s m args below meth c H locs ls hC hH hS hl
  have k := k p e s m args below meth c H locs ls hC hH hS hl
  have hw := zw_get E N M hk
  rw [zent_bool] at hw
  rw [List.map_cons] at k
  rw [List.map_cons, List.map_cons, zv_ref E ha]
  have hz := zcl h0 (by omega)
  refine va_zald (ws := zw E N M) hC.1.1 hC.1.2.1 hC.1.2.2.2.2.2.2.2.1 hH a.toNat 2 hw rfl (zin h0 h1 hn) hd ?_
  simp only [hz]
  exact k
theorem zr_lald {a i : Int} {n : Nat} (hd : decode d.2.1 pc = .ok (.laload, 1)) (hp : pc + 1 = pc') (ha : 0 ≤ a) (hk : N.1[a.toNat]? = some (101, n)) (hn : n < 2147483648) (h0 : 0 ≤ i) (h1 : i < n) (k : zA E N cu d pc' al (.inr (.inl (M a.toNat i.toNat)) :: st) M Q) : zA E N cu d pc al (.inl i :: .inr (.inr a) :: st) M Q := by
  subst hp
  intro p e s m args below meth c H locs ls hC hH hS hl
  have k := k p e s m args below meth c H locs ls hC hH hS hl
  have hw := zw_get E N M hk
  rw [zent_long] at hw
  rw [List.map_cons] at k
  rw [List.map_cons, List.map_cons, zv_ref E ha]
  have hz := zcl h0 (by omega)
  refine va_lald (ws := zw E N M) hC.1.1 hC.1.2.1 hC.1.2.2.2.2.2.2.2.1 hH a.toNat 1 hw rfl (zin h0 h1 hn) hd ?_
  simp only [hz]
  exact k
theorem zr_aald {a i : Int} {n t t0 : Nat} {C : String} (hd : decode d.2.1 pc = .ok (.aaload, 1)) (hp : pc + 1 = pc') (ha : 0 ≤ a) (hk : N.1[a.toNat]? = some (t, n)) (ht : 103 ≤ t) (ht0 : ∀ E : zE, (ztys E)[t0]? = some (E.2.2.1 t, .object C)) (hn : n < 2147483648) (h0 : 0 ≤ i) (h1 : i < n) (k : zA E N cu d pc' al (.inr (.inr (M a.toNat i.toNat)) :: st) M Q) : zA E N cu d pc al (.inl i :: .inr (.inr a) :: st) M Q := by
  subst hp
  intro p e s m args below meth c H locs ls hC hH hS hl
  have k := k p e s m args below meth c H locs ls hC hH hS hl
  have hw := zw_get E N M hk
  rw [zent_ref E N M _ _ ht] at hw
  rw [List.map_cons] at k
  rw [List.map_cons, List.map_cons, zv_ref E ha]
  have hz := zcl h0 (by omega)
  refine va_aldq (ws := zw E N M) hC.1.1 hC.1.2.1 hC.1.2.2.2.2.2.2.2.1 hH a.toNat t0 hw (ht0 E) (zin h0 h1 hn) hd ?_
  simp only [hz]
  exact k
theorem zr_iast {a i x : Int} {n : Nat} (hd : decode d.2.1 pc = .ok (.iastore, 1)) (hp : pc + 1 = pc') (ha : 0 ≤ a) (hk : N.1[a.toNat]? = some (100, n)) (hn : n < 2147483648) (h0 : 0 ≤ i) (h1 : i < n) (k : ∀ M1, M1 = zup M a.toNat i.toNat x → zA E N cu d pc' al st M1 Q) : zA E N cu d pc al (.inl x :: .inl i :: .inr (.inr a) :: st) M Q := by
  subst hp
  intro p e s m args below meth c H locs ls hC hH hS hl
  have hw := zw_get E N M hk
  rw [zent_int] at hw
  rw [List.map_cons, List.map_cons, List.map_cons, zv_ref E ha]
  have hz := zcl h0 (by omega)
  refine va_iast (ws := zw E N M) (A := zAs E) hC.1.1 hC.1.2.1 hC.1.2.2.2.2.2.2.2.1 hH (zw_D E N M) hS a.toNat 0 hw rfl (zin h0 h1 hn) hd (fun H1 locs1 hP1 hD1 hS1 => ?_)
  rw [hz, zw_set E N M (a := a.toNat) (kd := (100, n)) i.toNat x hk (by rw [zent_int, zup_eq]; congr 4; funext y; unfold upd; by_cases hy : y = i.toNat <;> simp [hy])] at hP1
  exact k _ rfl p e s m args below meth c H1 locs1 ls hC hP1 hS1 hl
theorem zr_zast {a i x : Int} {n : Nat} (hd : decode d.2.1 pc = .ok (.bastore, 1)) (hp : pc + 1 = pc') (ha : 0 ≤ a) (hk : N.1[a.toNat]? = some (102, n)) (hn : n < 2147483648) (h0 : 0 ≤ i) (h1 : i < n) (hx : x = 0 ∨ x = 1) (k : ∀ M1, M1 = zup M a.toNat i.toNat x → zA E N cu d pc' al st M1 Q) : zA E N cu d pc al (.inl x :: .inl i :: .inr (.inr a) :: st) M Q := by
  subst hp
  intro p e s m args below meth c H locs ls hC hH hS hl
  have hw := zw_get E N M hk
  rw [zent_bool] at hw
  rw [List.map_cons, List.map_cons, List.map_cons, zv_ref E ha]
  have hz := zcl h0 (by omega)
  have hnar : vp_nar .boolean (Int32.ofInt x) = Int32.ofInt x := by rcases hx with rfl | rfl <;> rfl
  refine va_zast (ws := zw E N M) (A := zAs E) hC.1.1 hC.1.2.1 hC.1.2.2.2.2.2.2.2.1 hH (zw_D E N M) hS a.toNat 2 hw rfl (zin h0 h1 hn) hd (fun H1 locs1 hP1 hD1 hS1 => ?_)
  rw [hz, hnar, zw_set E N M (a := a.toNat) (kd := (102, n)) i.toNat x hk (by rw [zent_bool, zup_eq]; congr 4; funext y; unfold upd; by_cases hy : y = i.toNat <;> simp [hy])] at hP1
  exact k _ rfl p e s m args below meth c H1 locs1 ls hC hP1 hS1 hl
theorem zr_last {a i x : Int} {n : Nat} (hd : decode d.2.1 pc = .ok (.lastore, 1)) (hp : pc + 1 = pc') (ha : 0 ≤ a) (hk : N.1[a.toNat]? = some (101, n)) (hn : n < 2147483648) (h0 : 0 ≤ i) (h1 : i < n) (k : ∀ M1, M1 = zup M a.toNat i.toNat x → zA E N cu d pc' al st M1 Q) : zA E N cu d pc al (.inr (.inl x) :: .inl i :: .inr (.inr a) :: st) M Q := by
  subst hp
  intro p e s m args below meth c H locs ls hC hH hS hl
  have hw := zw_get E N M hk
  rw [zent_long] at hw
  rw [List.map_cons, List.map_cons, List.map_cons, zv_ref E ha]
  have hz := zcl h0 (by omega)
  refine va_last (ws := zw E N M) (A := zAs E) hC.1.1 hC.1.2.1 hC.1.2.2.2.2.2.2.2.1 hH (zw_D E N M) hS a.toNat 1 hw rfl (zin h0 h1 hn) hd (fun H1 locs1 hP1 hD1 hS1 => ?_)
  rw [hz, zw_set E N M (a := a.toNat) (kd := (101, n)) i.toNat x hk (by rw [zent_long, zup_eq]; congr 5; funext y; unfold vp_updL; by_cases hy : y = i.toNat <;> simp [hy])] at hP1
  exact k _ rfl p e s m args below meth c H1 locs1 ls hC hP1 hS1 hl
theorem zr_alen {a : Int} {n t t0 : Nat} {ty : FieldType} (hd : decode d.2.1 pc = .ok (.arraylength, 1)) (hp : pc + 1 = pc') (ha : 0 ≤ a) (hk : N.1[a.toNat]? = some (t, n)) (ht : 100 ≤ t) (ht0 : ∀ E : zE, (ztys E)[t0]? = some (E.2.2.1 t, ty)) (k : zA E N cu d pc' al (.inl (n : Int) :: st) M Q) : zA E N cu d pc al (.inr (.inr a) :: st) M Q := by
  subst hp
  intro p e s m args below meth c H locs ls hC hH hS hl
  have k := k p e s m args below meth c H locs ls hC hH hS hl
  have hw := zw_get E N M hk
  have hex : ∃ x : (Nat → Int32) ⊕ (Nat → Int64) ⊕ (Nat → UInt32) ⊕ (Nat → UInt64) ⊕ (Nat → Option Nat), zent E N M a.toNat (t, n) = .inl (E.2.2.1 t, n, x) := by
    unfold zent
    rw [if_neg (by show ¬ t < 100; omega)]
    by_cases h1 : (t, n).1 = 101
    · rw [if_pos h1]; exact ⟨_, rfl⟩
    · rw [if_neg h1]
      by_cases h2 : (t, n).1 < 103
      · rw [if_pos h2]; exact ⟨_, rfl⟩
      · rw [if_neg h2]; exact ⟨_, rfl⟩
  obtain ⟨x, hx⟩ := hex
  rw [hx] at hw
  rw [List.map_cons] at k
  rw [List.map_cons, zv_ref E ha]
  exact va_alen (ws := zw E N M) hC.1.1 hC.1.2.1 hC.1.2.2.2.2.2.2.2.1 hH a.toNat t0 hw (ht0 E) (by show Int32.ofNat n = Int32.ofInt (n : Int); rfl) hd k
end zr
