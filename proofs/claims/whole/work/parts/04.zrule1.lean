/-! rules of the abstract machine: numbers, locals, branches -/
def zR (x : Int) : Prop := -2147483648 ≤ x ∧ x < 2147483648
def zL (x : Int) : Prop := -9223372036854775808 ≤ x ∧ x < 9223372036854775808
theorem zI {x : Int} (h : zR x) : (Int32.ofInt x).toInt = x := Int32.toInt_ofInt_of_le (by have := h.1; omega) (by have := h.2; omega)
theorem zJ {x : Int} (h : zL x) : (Int64.ofInt x).toInt = x := Int64.toInt_ofInt_of_le (by have := h.1; omega) (by have := h.2; omega)
theorem zlt {x y : Int} (hx : zR x) (hy : zR y) : Int32.ofInt x < Int32.ofInt y ↔ x < y := by rw [Int32.lt_iff_toInt_lt, zI hx, zI hy]
theorem zle {x y : Int} (hx : zR x) (hy : zR y) : Int32.ofInt x ≤ Int32.ofInt y ↔ x ≤ y := by rw [Int32.le_iff_toInt_le, zI hx, zI hy]
theorem zeq {x y : Int} (hx : zR x) (hy : zR y) : Int32.ofInt x = Int32.ofInt y ↔ x = y := by rw [← Int32.toInt_inj, zI hx, zI hy]
theorem zR0 : zR 0 := by unfold zR; omega
theorem zO0 : Int32.ofInt 0 = 0 := rfl
theorem zlt0 {x : Int} (hx : zR x) : Int32.ofInt x < 0 ↔ x < 0 := zlt hx zR0
theorem zgt0 {x : Int} (hx : zR x) : 0 < Int32.ofInt x ↔ 0 < x := zlt zR0 hx
theorem zle0 {x : Int} (hx : zR x) : Int32.ofInt x ≤ 0 ↔ x ≤ 0 := zle hx zR0
theorem zge0 {x : Int} (hx : zR x) : 0 ≤ Int32.ofInt x ↔ 0 ≤ x := zle zR0 hx
theorem zeq0 {x : Int} (hx : zR x) : Int32.ofInt x = 0 ↔ x = 0 := zeq hx zR0
/-- a place of an array -/
theorem zin {x : Int} {n : Nat} (h0 : 0 ≤ x) (h1 : x < n) (hn : n < 2147483648) : vp_in (Int32.ofInt x) n := by
  rw [vp_in_iff, zI ⟨by omega, by omega⟩]
  exact ⟨h0, h1⟩
theorem zcl {x : Int} (h0 : 0 ≤ x) (h1 : x < 2147483648) : (Int32.ofInt x).toNatClampNeg = x.toNat := by
  have : (Int32.ofInt x).toNatClampNeg = (Int32.ofInt x).toInt.toNat := rfl
  rw [this, zI ⟨by omega, h1⟩]
def zlk : List (Nat × zV) → Nat → Option zV
  | [], _ => none
  | q :: l, i => bif Nat.beq q.1 i then some q.2 else zlk l i
theorem zlk_mem : ∀ {l : List (Nat × zV)} {i : Nat} {v : zV}, zlk l i = some v → (i, v) ∈ l
  | [], _, _, h => by cases h
  | q :: l, i, v, h => by
    unfold zlk at h
    cases hb : Nat.beq q.1 i with
    | true =>
      rw [hb] at h
      have h1 : q.2 = v := Option.some.inj h
      have h2 : q.1 = i := Nat.eq_of_beq_eq_true hb
      rw [← h1, ← h2]
      exact List.mem_cons_self
    | false =>
      rw [hb] at h
      exact List.mem_cons_of_mem _ (zlk_mem h)
def zst (al : List (Nat × zV)) (i : Nat) (v : zV) : List (Nat × zV) := (i, v) :: al.filter (fun q => !(q.1 == i) && !(q.1 + 1 == i && zcat q.2 == 2))
def zstL (al : List (Nat × zV)) (i : Nat) (v : zV) : List (Nat × zV) := (i, v) :: al.filter (fun q => !(q.1 == i) && (!(q.1 == i + 1) && !(q.1 + 1 == i && zcat q.2 == 2)))
theorem zst_rep (E : zE) (al : List (Nat × zV)) (i : Nat) (v : zV) : (i, zv E v) :: (al.map fun q => (q.1, zv E q.2)).filter (fun q => !(q.1 == i) && !(q.1 + 1 == i && q.2.category == 2)) = (zst al i v).map fun q => (q.1, zv E q.2) := by
  unfold zst
  rw [List.map_cons, List.filter_map]
  congr 3
  funext q
  simp [Function.comp, zv_cat]
theorem zstL_rep (E : zE) (al : List (Nat × zV)) (i : Nat) (v : zV) : (i, zv E v) :: (al.map fun q => (q.1, zv E q.2)).filter (fun q => !(q.1 == i) && (!(q.1 == i + 1) && !(q.1 + 1 == i && q.2.category == 2))) = (zstL al i v).map fun q => (q.1, zv E q.2) := by
  unfold zstL
  rw [List.map_cons, List.filter_map]
  congr 3
  funext q
  simp [Function.comp, zv_cat]
theorem zhas_at {E : zE} {ls : Array Slot} {n : Nat} {al : List (Nat × zV)} (h : lv_has ls n (al.map fun q => (q.1, zv E q.2))) {i : Nat} {v : zV} (hk : zlk al i = some v) : ls[i]? = some (.val (zv E v)) := by
  have h1 := zlk_mem hk
  exact h.2.2 (i, zv E v) (List.mem_map.mpr ⟨(i, v), h1, rfl⟩)
section zr
variable {E : zE} {N : zN} {cu : Nat × Nat} {d : zD} {pc pc' : Nat} {al al' : List (Nat × zV)} {st : List zV} {M : zM} {Q : Int → zN → zM → Prop}
/-- fewer locals, in another order -/
theorem zr_al (h : ∀ q ∈ al', zlk al q.1 = some q.2) (k : zA E N cu d pc al' st M Q) : zA E N cu d pc al st M Q := by
  intro p e s m args below meth c H locs ls hC hH hS hl
  refine k p e s m args below meth c H locs ls hC hH hS ⟨hl.1, hl.2.1, fun q hq => ?_⟩
  obtain ⟨x, hx, rfl⟩ := List.mem_map.mp hq
  exact zhas_at hl (h x hx)
theorem zr_Q {Q' : Int → zN → zM → Prop} (h : ∀ r N' M', Q' r N' M' → Q r N' M') (k : zA E N cu d pc al st M Q') : zA E N cu d pc al st M Q := by
  intro p e s m args below meth c H locs ls hC hH hS hl T hT X
  obtain ⟨t, h1, o, h2, h3, ⟨r, N', M', hq, h4⟩, h5⟩ := k p e s m args below meth c H locs ls hC hH hS hl T hT X
  exact ⟨t, h1, o, h2, h3, ⟨r, N', M', h _ _ _ hq, h4⟩, h5⟩

theorem zr_iconst {n : Int} (hd : decode d.2.1 pc = .ok (.iconst n, 1)) (hp : pc + 1 = pc') (k : zA E N cu d pc' al (.inl n :: st) M Q) : zA E N cu d pc al st M Q := by
  subst hp
  intro p e s m args below meth c H locs ls hC hH hS hl
  exact lv_iconst hC.1.1 hC.1.2.1 hd rfl (k p e s m args below meth c H locs ls hC hH hS hl)
theorem zr_bipush {n : Int} (hd : decode d.2.1 pc = .ok (.bipush n, 2)) (hp : pc + 2 = pc') (hv : (Int8.ofInt n).toInt32 = Int32.ofInt n) (k : zA E N cu d pc' al (.inl n :: st) M Q) : zA E N cu d pc al st M Q := by
  subst hp
  intro p e s m args below meth c H locs ls hC hH hS hl
  exact lv_bipush hC.1.1 hC.1.2.1 hd hv (k p e s m args below meth c H locs ls hC hH hS hl)
theorem zr_sipush {n : Int} (hd : decode d.2.1 pc = .ok (.sipush n, 3)) (hp : pc + 3 = pc') (hv : (Int16.ofInt n).toInt32 = Int32.ofInt n) (k : zA E N cu d pc' al (.inl n :: st) M Q) : zA E N cu d pc al st M Q := by
  subst hp
  intro p e s m args below meth c H locs ls hC hH hS hl
  exact lv_sipush hC.1.1 hC.1.2.1 hd hv (k p e s m args below meth c H locs ls hC hH hS hl)
theorem zr_lconst {n : Fin 2} {x : Int} (hd : decode d.2.1 pc = .ok (.lconst n, 1)) (hp : pc + 1 = pc') (hv : Int64.ofNat (n : Nat) = Int64.ofInt x) (k : zA E N cu d pc' al (.inr (.inl x) :: st) M Q) : zA E N cu d pc al st M Q := by
  subst hp
  intro p e s m args below meth c H locs ls hC hH hS hl
  exact lv_lconst hC.1.1 hC.1.2.1 hd hv (k p e s m args below meth c H locs ls hC hH hS hl)
theorem zr_ldc {i : Nat} {x : Int} (hd : decode d.2.1 pc = .ok (.ldc i, 2)) (hp : pc + 2 = pc') (hw : Cond.constant d.2.2.2.2.1 i (Int32.ofInt x) ∈ zT) (k : zA E N cu d pc' al (.inl x :: st) M Q) : zA E N cu d pc al st M Q := by
  subst hp
  intro p e s m args below meth c H locs ls hC hH hS hl
  exact lv_ldc hC.1.1 hC.1.2.1 hC.1.2.2.2.1 (hC.1.2.2.2.2.1 _ hw) hd (k p e s m args below meth c H locs ls hC hH hS hl)
theorem zr_ldcw {i : Nat} {x : Int} (hd : decode d.2.1 pc = .ok (.ldc_w i, 3)) (hp : pc + 3 = pc') (hw : Cond.constant d.2.2.2.2.1 i (Int32.ofInt x) ∈ zT) (k : zA E N cu d pc' al (.inl x :: st) M Q) : zA E N cu d pc al st M Q := by
  subst hp
  intro p e s m args below meth c H locs ls hC hH hS hl
  exact lv_ldcw hC.1.1 hC.1.2.1 hC.1.2.2.2.1 (hC.1.2.2.2.2.1 _ hw) hd (k p e s m args below meth c H locs ls hC hH hS hl)
theorem zr_ldc2 {i : Nat} {x : Int} (hd : decode d.2.1 pc = .ok (.ldc2_w i, 3)) (hp : pc + 3 = pc') (hw : Cond.constantLong d.2.2.2.2.1 i (Int64.ofInt x) ∈ zT) (k : zA E N cu d pc' al (.inr (.inl x) :: st) M Q) : zA E N cu d pc al st M Q := by
  subst hp
  intro p e s m args below meth c H locs ls hC hH hS hl
  exact lv_ldc2 hC.1.1 hC.1.2.1 hC.1.2.2.2.1 (hC.1.2.2.2.2.1 _ hw) hd (k p e s m args below meth c H locs ls hC hH hS hl)
theorem zr_iload_n {f : Fin 4} {i : Nat} {x : Int} (hd : decode d.2.1 pc = .ok (.iload_n f, 1)) (hp : pc + 1 = pc') (hi : (f : Nat) = i) (hk : zlk al i = some (.inl x)) (k : zA E N cu d pc' al (.inl x :: st) M Q) : zA E N cu d pc al st M Q := by
  subst hp
  intro p e s m args below meth c H locs ls hC hH hS hl
  exact lv_iload_n hC.1.1 hC.1.2.1 hd hi (zhas_at hl hk) (k p e s m args below meth c H locs ls hC hH hS hl)
theorem zr_iload {i : Nat} {x : Int} (hd : decode d.2.1 pc = .ok (.iload i, 2)) (hp : pc + 2 = pc') (hk : zlk al i = some (.inl x)) (k : zA E N cu d pc' al (.inl x :: st) M Q) : zA E N cu d pc al st M Q := by
  subst hp
  intro p e s m args below meth c H locs ls hC hH hS hl
  exact lv_iload hC.1.1 hC.1.2.1 hd (zhas_at hl hk) (k p e s m args below meth c H locs ls hC hH hS hl)
theorem zr_lload_n {f : Fin 4} {i : Nat} {x : Int} (hd : decode d.2.1 pc = .ok (.lload_n f, 1)) (hp : pc + 1 = pc') (hi : (f : Nat) = i) (hk : zlk al i = some (.inr (.inl x))) (k : zA E N cu d pc' al (.inr (.inl x) :: st) M Q) : zA E N cu d pc al st M Q := by
  subst hp
  intro p e s m args below meth c H locs ls hC hH hS hl
  exact lv_lload_n hC.1.1 hC.1.2.1 hd hi (zhas_at hl hk) (k p e s m args below meth c H locs ls hC hH hS hl)
theorem zr_lload {i : Nat} {x : Int} (hd : decode d.2.1 pc = .ok (.lload i, 2)) (hp : pc + 2 = pc') (hk : zlk al i = some (.inr (.inl x))) (k : zA E N cu d pc' al (.inr (.inl x) :: st) M Q) : zA E N cu d pc al st M Q := by
  subst hp
  intro p e s m args below meth c H locs ls hC hH hS hl
  exact lv_lload hC.1.1 hC.1.2.1 hd (zhas_at hl hk) (k p e s m args below meth c H locs ls hC hH hS hl)
theorem zr_aload_n {f : Fin 4} {i : Nat} {x : Int} (hd : decode d.2.1 pc = .ok (.aload_n f, 1)) (hp : pc + 1 = pc') (hi : (f : Nat) = i) (hk : zlk al i = some (.inr (.inr x))) (k : zA E N cu d pc' al (.inr (.inr x) :: st) M Q) : zA E N cu d pc al st M Q := by
  subst hp
  intro p e s m args below meth c H locs ls hC hH hS hl
  have k := k p e s m args below meth c H locs ls hC hH hS hl
  have h1 := zhas_at hl hk
  simp only [List.map_cons, zv] at k h1
  cases hr : zrf E x with
  | none => rw [hr] at k h1; exact lv_aload_nN hC.1.1 hC.1.2.1 hd hi h1 k
  | some a => rw [hr] at k h1; exact lv_aload_n hC.1.1 hC.1.2.1 hd hi h1 k
theorem zr_aload {i : Nat} {x : Int} (hd : decode d.2.1 pc = .ok (.aload i, 2)) (hp : pc + 2 = pc') (hk : zlk al i = some (.inr (.inr x))) (k : zA E N cu d pc' al (.inr (.inr x) :: st) M Q) : zA E N cu d pc al st M Q := by
  subst hp
  intro p e s m args below meth c H locs ls hC hH hS hl
  have k := k p e s m args below meth c H locs ls hC hH hS hl
  have h1 := zhas_at hl hk
  simp only [List.map_cons, zv] at k h1
  cases hr : zrf E x with
  | none => rw [hr] at k h1; exact lv_aloadN hC.1.1 hC.1.2.1 hd h1 k
  | some a => rw [hr] at k h1; exact lv_aload hC.1.1 hC.1.2.1 hd h1 k
theorem zr_istore_n {f : Fin 4} {i : Nat} {x : Int} (hd : decode d.2.1 pc = .ok (.istore_n f, 1)) (hp : pc + 1 = pc') (hi : (f : Nat) = i) (hn : i < d.2.2.1) (hs : zst al i (.inl x) = al') (k : zA E N cu d pc' al' st M Q) : zA E N cu d pc al (.inl x :: st) M Q := by
  subst hp hs
  intro p e s m args below meth c H locs ls hC hH hS hl
  exact lv_istore_n hC.1.1 hC.1.2.1 hd hi hl hn (zst_rep E al i (.inl x)) (fun ls' h => k p e s m args below meth c H locs ls' hC hH hS h)
theorem zr_istore {i : Nat} {x : Int} (hd : decode d.2.1 pc = .ok (.istore i, 2)) (hp : pc + 2 = pc') (hn : i < d.2.2.1) (hs : zst al i (.inl x) = al') (k : zA E N cu d pc' al' st M Q) : zA E N cu d pc al (.inl x :: st) M Q := by
  subst hp hs
  intro p e s m args below meth c H locs ls hC hH hS hl
  exact lv_istore hC.1.1 hC.1.2.1 hd hl hn (zst_rep E al i (.inl x)) (fun ls' h => k p e s m args below meth c H locs ls' hC hH hS h)
theorem zr_lstore_n {f : Fin 4} {i : Nat} {x : Int} (hd : decode d.2.1 pc = .ok (.lstore_n f, 1)) (hp : pc + 1 = pc') (hi : (f : Nat) = i) (hn : i + 1 < d.2.2.1) (hs : zstL al i (.inr (.inl x)) = al') (k : zA E N cu d pc' al' st M Q) : zA E N cu d pc al (.inr (.inl x) :: st) M Q := by
  subst hp hs
  intro p e s m args below meth c H locs ls hC hH hS hl
  exact lv_lstore_n hC.1.1 hC.1.2.1 hd hi hl hn (zstL_rep E al i (.inr (.inl x))) (fun ls' h => k p e s m args below meth c H locs ls' hC hH hS h)
theorem zr_lstore {i : Nat} {x : Int} (hd : decode d.2.1 pc = .ok (.lstore i, 2)) (hp : pc + 2 = pc') (hn : i + 1 < d.2.2.1) (hs : zstL al i (.inr (.inl x)) = al') (k : zA E N cu d pc' al' st M Q) : zA E N cu d pc al (.inr (.inl x) :: st) M Q := by
  subst hp hs
  intro p e s m args below meth c H locs ls hC hH hS hl
  exact lv_lstore hC.1.1 hC.1.2.1 hd hl hn (zstL_rep E al i (.inr (.inl x))) (fun ls' h => k p e s m args below meth c H locs ls' hC hH hS h)
theorem zr_astore_n {f : Fin 4} {i : Nat} {x : Int} (hd : decode d.2.1 pc = .ok (.astore_n f, 1)) (hp : pc + 1 = pc') (hi : (f : Nat) = i) (hn : i < d.2.2.1) (hs : zst al i (.inr (.inr x)) = al') (k : zA E N cu d pc' al' st M Q) : zA E N cu d pc al (.inr (.inr x) :: st) M Q := by
  subst hp hs
  intro p e s m args below meth c H locs ls hC hH hS hl
  have h1 := zst_rep E al i (.inr (.inr x))
  simp only [List.map_cons, zv] at h1 ⊢
  cases hr : zrf E x with
  | none => rw [hr] at h1; exact lv_astore_nN hC.1.1 hC.1.2.1 hd hi hl hn h1 (fun ls' h => k p e s m args below meth c H locs ls' hC hH hS h)
  | some a => rw [hr] at h1; exact lv_astore_n hC.1.1 hC.1.2.1 hd hi hl hn h1 (fun ls' h => k p e s m args below meth c H locs ls' hC hH hS h)
theorem zr_astore {i : Nat} {x : Int} (hd : decode d.2.1 pc = .ok (.astore i, 2)) (hp : pc + 2 = pc') (hn : i < d.2.2.1) (hs : zst al i (.inr (.inr x)) = al') (k : zA E N cu d pc' al' st M Q) : zA E N cu d pc al (.inr (.inr x) :: st) M Q := by
  subst hp hs
  intro p e s m args below meth c H locs ls hC hH hS hl
  have h1 := zst_rep E al i (.inr (.inr x))
  simp only [List.map_cons, zv] at h1 ⊢
  cases hr : zrf E x with
  | none => rw [hr] at h1; exact lv_astoreN hC.1.1 hC.1.2.1 hd hl hn h1 (fun ls' h => k p e s m args below meth c H locs ls' hC hH hS h)
  | some a => rw [hr] at h1; exact lv_astore hC.1.1 hC.1.2.1 hd hl hn h1 (fun ls' h => k p e s m args below meth c H locs ls' hC hH hS h)
theorem zr_iinc {i : Nat} {x n : Int} (hd : decode d.2.1 pc = .ok (.iinc i n, 3)) (hp : pc + 3 = pc') (hk : zlk al i = some (.inl x)) (hn : i < d.2.2.1) (hs : zst al i (.inl (x + n)) = al') (k : zA E N cu d pc' al' st M Q) : zA E N cu d pc al st M Q := by
  subst hp hs
  intro p e s m args below meth c H locs ls hC hH hS hl
  have hm : (i, zv E (.inl x)) ∈ al.map fun q => (q.1, zv E q.2) := List.mem_map.mpr ⟨(i, .inl x), zlk_mem hk, rfl⟩
  obtain ⟨j, hj⟩ := List.mem_iff_getElem?.mp hm
  exact lv_iinc hC.1.1 hC.1.2.1 hd hl hj (Int32.ofInt_add x n).symm hn (zst_rep E al i (.inl (x + n))) (fun ls' h => k p e s m args below meth c H locs ls' hC hH hS h)
theorem zr_iadd {x y : Int} (hd : decode d.2.1 pc = .ok (.iadd, 1)) (hp : pc + 1 = pc') (k : zA E N cu d pc' al (.inl (x + y) :: st) M Q) : zA E N cu d pc al (.inl y :: .inl x :: st) M Q := by
  subst hp
  intro p e s m args below meth c H locs ls hC hH hS hl
  have k := k p e s m args below meth c H locs ls hC hH hS hl
  simp only [List.map_cons, zv, Int32.ofInt_add] at k ⊢
  exact lv_iadd hC.1.1 hC.1.2.1 hd k
theorem zr_isub {x y : Int} (hd : decode d.2.1 pc = .ok (.isub, 1)) (hp : pc + 1 = pc') (k : zA E N cu d pc' al (.inl (x - y) :: st) M Q) : zA E N cu d pc al (.inl y :: .inl x :: st) M Q := by
  subst hp
  intro p e s m args below meth c H locs ls hC hH hS hl
  have k := k p e s m args below meth c H locs ls hC hH hS hl
  simp only [List.map_cons, zv, Int32.ofInt_sub] at k ⊢
  exact lv_isub hC.1.1 hC.1.2.1 hd k
theorem zr_imul {x y : Int} (hd : decode d.2.1 pc = .ok (.imul, 1)) (hp : pc + 1 = pc') (k : zA E N cu d pc' al (.inl (x * y) :: st) M Q) : zA E N cu d pc al (.inl y :: .inl x :: st) M Q := by
  subst hp
  intro p e s m args below meth c H locs ls hC hH hS hl
  have k := k p e s m args below meth c H locs ls hC hH hS hl
  simp only [List.map_cons, zv, Int32.ofInt_mul] at k ⊢
  exact lv_imul hC.1.1 hC.1.2.1 hd k
theorem zr_ladd {x y : Int} (hd : decode d.2.1 pc = .ok (.ladd, 1)) (hp : pc + 1 = pc') (k : zA E N cu d pc' al (.inr (.inl (x + y)) :: st) M Q) : zA E N cu d pc al (.inr (.inl y) :: .inr (.inl x) :: st) M Q := by
  subst hp
  intro p e s m args below meth c H locs ls hC hH hS hl
  have k := k p e s m args below meth c H locs ls hC hH hS hl
  simp only [List.map_cons, zv, Int64.ofInt_add] at k ⊢
  exact lv_ladd hC.1.1 hC.1.2.1 hd k
theorem zr_lsub {x y : Int} (hd : decode d.2.1 pc = .ok (.lsub, 1)) (hp : pc + 1 = pc') (k : zA E N cu d pc' al (.inr (.inl (x - y)) :: st) M Q) : zA E N cu d pc al (.inr (.inl y) :: .inr (.inl x) :: st) M Q := by
  subst hp
  intro p e s m args below meth c H locs ls hC hH hS hl
  have k := k p e s m args below meth c H locs ls hC hH hS hl
  simp only [List.map_cons, zv, Int64.ofInt_sub] at k ⊢
  exact lv_lsub hC.1.1 hC.1.2.1 hd k
theorem zr_lmul {x y : Int} (hd : decode d.2.1 pc = .ok (.lmul, 1)) (hp : pc + 1 = pc') (k : zA E N cu d pc' al (.inr (.inl (x * y)) :: st) M Q) : zA E N cu d pc al (.inr (.inl y) :: .inr (.inl x) :: st) M Q := by
  subst hp
  intro p e s m args below meth c H locs ls hC hH hS hl
  have k := k p e s m args below meth c H locs ls hC hH hS hl
  simp only [List.map_cons, zv, Int64.ofInt_mul] at k ⊢
  exact lv_lmul hC.1.1 hC.1.2.1 hd k
theorem zr_ineg {x : Int} (hd : decode d.2.1 pc = .ok (.ineg, 1)) (hp : pc + 1 = pc') (k : zA E N cu d pc' al (.inl (-x) :: st) M Q) : zA E N cu d pc al (.inl x :: st) M Q := by
  subst hp
  intro p e s m args below meth c H locs ls hC hH hS hl
  have k := k p e s m args below meth c H locs ls hC hH hS hl
  simp only [List.map_cons, zv, Int32.ofInt_neg] at k ⊢
  exact lv_ineg hC.1.1 hC.1.2.1 hd k
theorem zr_lneg {x : Int} (hd : decode d.2.1 pc = .ok (.lneg, 1)) (hp : pc + 1 = pc') (k : zA E N cu d pc' al (.inr (.inl (-x)) :: st) M Q) : zA E N cu d pc al (.inr (.inl x) :: st) M Q := by
  subst hp
  intro p e s m args below meth c H locs ls hC hH hS hl
  have k := k p e s m args below meth c H locs ls hC hH hS hl
  simp only [List.map_cons, zv, Int64.ofInt_neg] at k ⊢
  exact lv_lneg hC.1.1 hC.1.2.1 hd k
theorem zdiv {x y : Int} (hx : zR x) (hy : zR y) : Int32.ofInt x / Int32.ofInt y = Int32.ofInt (x.tdiv y) := by
  refine (Int32.ofInt_tdiv ?_ ?_ ?_ ?_).symm
  · show -2147483648 ≤ x; exact hx.1
  · show x ≤ 2147483647; have := hx.2; omega
  · show -2147483648 ≤ y; exact hy.1
  · show y ≤ 2147483647; have := hy.2; omega
theorem zdivL {x y : Int} (hx : zL x) (hy : zL y) : Int64.ofInt x / Int64.ofInt y = Int64.ofInt (x.tdiv y) := by
  refine (Int64.ofInt_tdiv ?_ ?_ ?_ ?_).symm
  · show -9223372036854775808 ≤ x; exact hx.1
  · show x ≤ 9223372036854775807; have := hx.2; omega
  · show -9223372036854775808 ≤ y; exact hy.1
  · show y ≤ 9223372036854775807; have := hy.2; omega
theorem zr_idiv {x y : Int} (hd : decode d.2.1 pc = .ok (.idiv, 1)) (hp : pc + 1 = pc') (hx : zR x) (hy : zR y) (hne : y ≠ 0) (k : zA E N cu d pc' al (.inl (x.tdiv y) :: st) M Q) : zA E N cu d pc al (.inl y :: .inl x :: st) M Q := by
  subst hp
  intro p e s m args below meth c H locs ls hC hH hS hl
  have k := k p e s m args below meth c H locs ls hC hH hS hl
  simp only [List.map_cons, zv] at k ⊢
  rw [← zdiv hx hy] at k
  exact lv_idiv hC.1.1 hC.1.2.1 hd (fun h => hne ((zeq0 hy).mp h)) k
theorem zr_irem {x y : Int} (hd : decode d.2.1 pc = .ok (.irem, 1)) (hp : pc + 1 = pc') (hx : zR x) (hy : zR y) (hne : y ≠ 0) (k : zA E N cu d pc' al (.inl (x.tmod y) :: st) M Q) : zA E N cu d pc al (.inl y :: .inl x :: st) M Q := by
  subst hp
  intro p e s m args below meth c H locs ls hC hH hS hl
  have k := k p e s m args below meth c H locs ls hC hH hS hl
  simp only [List.map_cons, zv] at k ⊢
  have h1 : Int32.ofInt (x.tmod y) = Int32.ofInt x - Int32.ofInt x / Int32.ofInt y * Int32.ofInt y := by
    rw [zdiv hx hy, ← Int32.ofInt_mul, ← Int32.ofInt_sub, Int.tmod_def, Int.mul_comm]
  rw [h1] at k
  exact lv_irem hC.1.1 hC.1.2.1 hd (fun h => hne ((zeq0 hy).mp h)) k
theorem zr_ldiv {x y : Int} (hd : decode d.2.1 pc = .ok (.ldiv, 1)) (hp : pc + 1 = pc') (hx : zL x) (hy : zL y) (hne : y ≠ 0) (k : zA E N cu d pc' al (.inr (.inl (x.tdiv y)) :: st) M Q) : zA E N cu d pc al (.inr (.inl y) :: .inr (.inl x) :: st) M Q := by
  subst hp
  intro p e s m args below meth c H locs ls hC hH hS hl
  have k := k p e s m args below meth c H locs ls hC hH hS hl
  simp only [List.map_cons, zv] at k ⊢
  rw [← zdivL hx hy] at k
  refine lv_ldiv hC.1.1 hC.1.2.1 hd (fun h => hne ?_) k
  have h2 : (Int64.ofInt y).toInt = 0 := by rw [h]; rfl
  rw [zJ hy] at h2
  exact h2
def zand (x y : Int) : Int := (Int32.ofInt x &&& Int32.ofInt y).toInt
def zxor (x y : Int) : Int := (Int32.ofInt x ^^^ Int32.ofInt y).toInt
def zshr (x y : Int) : Int := (Int32.ofInt x >>> (Int32.ofInt y &&& 31)).toInt
def zushr (x y : Int) : Int := (((Int32.ofInt x).toUInt32 >>> ((Int32.ofInt y).toUInt32 &&& Int32.toUInt32 31)).toInt32).toInt
theorem zr_iand {x y : Int} (hd : decode d.2.1 pc = .ok (.iand, 1)) (hp : pc + 1 = pc') (k : zA E N cu d pc' al (.inl (zand x y) :: st) M Q) : zA E N cu d pc al (.inl y :: .inl x :: st) M Q := by
  subst hp
  intro p e s m args below meth c H locs ls hC hH hS hl
  have k := k p e s m args below meth c H locs ls hC hH hS hl
  simp only [List.map_cons, zv, zand, Int32.ofInt_toInt] at k ⊢
  exact lv_iand hC.1.1 hC.1.2.1 hd k
theorem zr_ixor {x y : Int} (hd : decode d.2.1 pc = .ok (.ixor, 1)) (hp : pc + 1 = pc') (k : zA E N cu d pc' al (.inl (zxor x y) :: st) M Q) : zA E N cu d pc al (.inl y :: .inl x :: st) M Q := by
  subst hp
  intro p e s m args below meth c H locs ls hC hH hS hl
  have k := k p e s m args below meth c H locs ls hC hH hS hl
  simp only [List.map_cons, zv, zxor, Int32.ofInt_toInt] at k ⊢
  exact lv_ixor hC.1.1 hC.1.2.1 hd k
theorem zr_ishr {x y : Int} (hd : decode d.2.1 pc = .ok (.ishr, 1)) (hp : pc + 1 = pc') (k : zA E N cu d pc' al (.inl (zshr x y) :: st) M Q) : zA E N cu d pc al (.inl y :: .inl x :: st) M Q := by
  subst hp
  intro p e s m args below meth c H locs ls hC hH hS hl
  have k := k p e s m args below meth c H locs ls hC hH hS hl
  simp only [List.map_cons, zv, zshr, Int32.ofInt_toInt] at k ⊢
  exact lv_ishr hC.1.1 hC.1.2.1 hd k
theorem zr_iushr {x y : Int} (hd : decode d.2.1 pc = .ok (.iushr, 1)) (hp : pc + 1 = pc') (k : zA E N cu d pc' al (.inl (zushr x y) :: st) M Q) : zA E N cu d pc al (.inl y :: .inl x :: st) M Q := by
  subst hp
  intro p e s m args below meth c H locs ls hC hH hS hl
  have k := k p e s m args below meth c H locs ls hC hH hS hl
  simp only [List.map_cons, zv, zushr, Int32.ofInt_toInt] at k ⊢
  exact lv_iushr hC.1.1 hC.1.2.1 hd rfl k
theorem zr_i2l {x : Int} (hd : decode d.2.1 pc = .ok (.i2l, 1)) (hp : pc + 1 = pc') (hx : zR x) (k : zA E N cu d pc' al (.inr (.inl x) :: st) M Q) : zA E N cu d pc al (.inl x :: st) M Q := by
  subst hp
  intro p e s m args below meth c H locs ls hC hH hS hl
  have k := k p e s m args below meth c H locs ls hC hH hS hl
  simp only [List.map_cons, zv] at k ⊢
  refine lv_i2l hC.1.1 hC.1.2.1 hd (Int32.toInt64_ofInt ?_ ?_) k
  · show -2147483648 ≤ x; exact hx.1
  · show x ≤ 2147483647; have := hx.2; omega
theorem zcmp {x y : Int} (hx : zL x) (hy : zL y) : lg_cmp (Int64.ofInt x) (Int64.ofInt y) = Int32.ofInt (if y < x then 1 else if x = y then 0 else -1) := by
  have h1 : (Int64.ofInt x > Int64.ofInt y) ↔ y < x := by
    show Int64.ofInt y < Int64.ofInt x ↔ y < x
    rw [Int64.lt_iff_toInt_lt, zJ hx, zJ hy]
  have h2 : (Int64.ofInt x = Int64.ofInt y) ↔ x = y := by rw [← Int64.toInt_inj, zJ hx, zJ hy]
  unfold lg_cmp
  by_cases ha : y < x
  · rw [if_pos (h1.mpr ha), if_pos ha]; rfl
  · rw [if_neg (fun h => ha (h1.mp h)), if_neg ha]
    by_cases hb : x = y
    · rw [if_pos (h2.mpr hb), if_pos hb]; rfl
    · rw [if_neg (fun h => hb (h2.mp h)), if_neg hb]; rfl
theorem zr_lcmp {x y : Int} (hd : decode d.2.1 pc = .ok (.lcmp, 1)) (hp : pc + 1 = pc') (hx : zL x) (hy : zL y) (k : zA E N cu d pc' al (.inl (if y < x then 1 else if x = y then 0 else -1) :: st) M Q) : zA E N cu d pc al (.inr (.inl y) :: .inr (.inl x) :: st) M Q := by
  subst hp
  intro p e s m args below meth c H locs ls hC hH hS hl
  have k := k p e s m args below meth c H locs ls hC hH hS hl
  simp only [List.map_cons, zv] at k ⊢
  rw [← zcmp hx hy] at k
  exact W.lcmp hC.1.1 hC.1.2.1 hd k
theorem zr_dup {v : zV} (hd : decode d.2.1 pc = .ok (.dup, 1)) (hp : pc + 1 = pc') (hv : zcat v = 1) (k : zA E N cu d pc' al (v :: v :: st) M Q) : zA E N cu d pc al (v :: st) M Q := by
  subst hp
  intro p e s m args below meth c H locs ls hC hH hS hl
  have k := k p e s m args below meth c H locs ls hC hH hS hl
  exact lv_dup hC.1.1 hC.1.2.1 hd (by rw [zv_cat]; exact hv) k
theorem zr_dup2 {u v : zV} (hd : decode d.2.1 pc = .ok (.dup2, 1)) (hp : pc + 1 = pc') (hu : zcat u = 1) (hv : zcat v = 1) (k : zA E N cu d pc' al (u :: v :: u :: v :: st) M Q) : zA E N cu d pc al (u :: v :: st) M Q := by
  subst hp
  intro p e s m args below meth c H locs ls hC hH hS hl
  have k := k p e s m args below meth c H locs ls hC hH hS hl
  exact lv_dup2_11 hC.1.1 hC.1.2.1 hd (by rw [zv_cat]; exact hu) (by rw [zv_cat]; exact hv) k
theorem zr_dup_x1 {u v : zV} (hd : decode d.2.1 pc = .ok (.dup_x1, 1)) (hp : pc + 1 = pc') (hu : zcat u = 1) (hv : zcat v = 1) (k : zA E N cu d pc' al (u :: v :: u :: st) M Q) : zA E N cu d pc al (u :: v :: st) M Q := by
  subst hp
  intro p e s m args below meth c H locs ls hC hH hS hl
  have k := k p e s m args below meth c H locs ls hC hH hS hl
  exact lv_dup_x1 hC.1.1 hC.1.2.1 hd (by rw [zv_cat]; exact hu) (by rw [zv_cat]; exact hv) k
theorem zr_pop {u : zV} (hd : decode d.2.1 pc = .ok (.pop, 1)) (hp : pc + 1 = pc') (hu : zcat u = 1) (k : zA E N cu d pc' al st M Q) : zA E N cu d pc al (u :: st) M Q := by
  subst hp
  intro p e s m args below meth c H locs ls hC hH hS hl
  have k := k p e s m args below meth c H locs ls hC hH hS hl
  exact lv_pop hC.1.1 hC.1.2.1 hd (by rw [zv_cat]; exact hu) k
theorem zr_goto {off : Int} (hd : decode d.2.1 pc = .ok (.goto off, 3)) (ht : (pc : Int) + off = (pc' : Int)) (k : zA E N cu d pc' al st M Q) : zA E N cu d pc al st M Q := by
  intro p e s m args below meth c H locs ls hC hH hS hl
  have k := k p e s m args below meth c H locs ls hC hH hS hl
  exact lv_goto hC.1.1 hC.1.2.1 hd ht k
theorem zr_if_eq {x off : Int} {tgt : Nat} (hd : decode d.2.1 pc = .ok (.ifCond .eq off, 3)) (ht : (pc : Int) + off = (tgt : Int)) (hp : pc + 3 = pc') (hx : zR x) (kt : x = 0 → zA E N cu d tgt al st M Q) (kf : ¬ x = 0 → zA E N cu d pc' al st M Q) : zA E N cu d pc al (.inl x :: st) M Q := by
  subst hp
  intro p e s m args below meth c H locs ls hC hH hS hl
  exact lv_if_eq hC.1.1 hC.1.2.1 hd ht (fun h => kt ((zeq0 hx).mp h) p e s m args below meth c H locs ls hC hH hS hl) (fun h => kf (fun g => h ((zeq0 hx).mpr g)) p e s m args below meth c H locs ls hC hH hS hl)
theorem zr_icmp_eq {x y off : Int} {tgt : Nat} (hd : decode d.2.1 pc = .ok (.if_icmp .eq off, 3)) (ht : (pc : Int) + off = (tgt : Int)) (hp : pc + 3 = pc') (hx : zR x) (hy : zR y) (kt : x = y → zA E N cu d tgt al st M Q) (kf : ¬ x = y → zA E N cu d pc' al st M Q) : zA E N cu d pc al (.inl y :: .inl x :: st) M Q := by
  subst hp
  intro p e s m args below meth c H locs ls hC hH hS hl
  exact lv_icmp_eq hC.1.1 hC.1.2.1 hd ht (fun h => kt ((zeq hx hy).mp h) p e s m args below meth c H locs ls hC hH hS hl) (fun h => kf (fun g => h ((zeq hx hy).mpr g)) p e s m args below meth c H locs ls hC hH hS hl)
theorem zr_if_ne {x off : Int} {tgt : Nat} (hd : decode d.2.1 pc = .ok (.ifCond .ne off, 3)) (ht : (pc : Int) + off = (tgt : Int)) (hp : pc + 3 = pc') (hx : zR x) (kt : ¬ x = 0 → zA E N cu d tgt al st M Q) (kf : x = 0 → zA E N cu d pc' al st M Q) : zA E N cu d pc al (.inl x :: st) M Q := by
  subst hp
  intro p e s m args below meth c H locs ls hC hH hS hl
  exact lv_if_ne hC.1.1 hC.1.2.1 hd ht (fun h => kt (fun g => h ((zeq0 hx).mpr g)) p e s m args below meth c H locs ls hC hH hS hl) (fun h => kf ((zeq0 hx).mp h) p e s m args below meth c H locs ls hC hH hS hl)
theorem zr_icmp_ne {x y off : Int} {tgt : Nat} (hd : decode d.2.1 pc = .ok (.if_icmp .ne off, 3)) (ht : (pc : Int) + off = (tgt : Int)) (hp : pc + 3 = pc') (hx : zR x) (hy : zR y) (kt : ¬ x = y → zA E N cu d tgt al st M Q) (kf : x = y → zA E N cu d pc' al st M Q) : zA E N cu d pc al (.inl y :: .inl x :: st) M Q := by
  subst hp
  intro p e s m args below meth c H locs ls hC hH hS hl
  exact lv_icmp_ne hC.1.1 hC.1.2.1 hd ht (fun h => kt (fun g => h ((zeq hx hy).mpr g)) p e s m args below meth c H locs ls hC hH hS hl) (fun h => kf ((zeq hx hy).mp h) p e s m args below meth c H locs ls hC hH hS hl)
theorem zr_if_lt {x off : Int} {tgt : Nat} (hd : decode d.2.1 pc = .ok (.ifCond .lt off, 3)) (ht : (pc : Int) + off = (tgt : Int)) (hp : pc + 3 = pc') (hx : zR x) (kt : x < 0 → zA E N cu d tgt al st M Q) (kf : 0 ≤ x → zA E N cu d pc' al st M Q) : zA E N cu d pc al (.inl x :: st) M Q := by
  subst hp
  intro p e s m args below meth c H locs ls hC hH hS hl
  exact lv_if_lt hC.1.1 hC.1.2.1 hd ht (fun h => kt ((zlt0 hx).mp h) p e s m args below meth c H locs ls hC hH hS hl) (fun h => kf (Int.not_lt.mp (fun g => h ((zlt0 hx).mpr g))) p e s m args below meth c H locs ls hC hH hS hl)
theorem zr_icmp_lt {x y off : Int} {tgt : Nat} (hd : decode d.2.1 pc = .ok (.if_icmp .lt off, 3)) (ht : (pc : Int) + off = (tgt : Int)) (hp : pc + 3 = pc') (hx : zR x) (hy : zR y) (kt : x < y → zA E N cu d tgt al st M Q) (kf : y ≤ x → zA E N cu d pc' al st M Q) : zA E N cu d pc al (.inl y :: .inl x :: st) M Q := by
  subst hp
  intro p e s m args below meth c H locs ls hC hH hS hl
  exact lv_icmp_lt hC.1.1 hC.1.2.1 hd ht (fun h => kt ((zlt hx hy).mp h) p e s m args below meth c H locs ls hC hH hS hl) (fun h => kf (Int.not_lt.mp (fun g => h ((zlt hx hy).mpr g))) p e s m args below meth c H locs ls hC hH hS hl)
theorem zr_if_ge {x off : Int} {tgt : Nat} (hd : decode d.2.1 pc = .ok (.ifCond .ge off, 3)) (ht : (pc : Int) + off = (tgt : Int)) (hp : pc + 3 = pc') (hx : zR x) (kt : 0 ≤ x → zA E N cu d tgt al st M Q) (kf : x < 0 → zA E N cu d pc' al st M Q) : zA E N cu d pc al (.inl x :: st) M Q := by
  subst hp
  intro p e s m args below meth c H locs ls hC hH hS hl
  exact lv_if_ge hC.1.1 hC.1.2.1 hd ht (fun h => kt ((zge0 hx).mp h) p e s m args below meth c H locs ls hC hH hS hl) (fun h => kf (Int.not_le.mp (fun g => h ((zge0 hx).mpr g))) p e s m args below meth c H locs ls hC hH hS hl)
theorem zr_icmp_ge {x y off : Int} {tgt : Nat} (hd : decode d.2.1 pc = .ok (.if_icmp .ge off, 3)) (ht : (pc : Int) + off = (tgt : Int)) (hp : pc + 3 = pc') (hx : zR x) (hy : zR y) (kt : y ≤ x → zA E N cu d tgt al st M Q) (kf : x < y → zA E N cu d pc' al st M Q) : zA E N cu d pc al (.inl y :: .inl x :: st) M Q := by
  subst hp
  intro p e s m args below meth c H locs ls hC hH hS hl
  exact lv_icmp_ge hC.1.1 hC.1.2.1 hd ht (fun h => kt ((zle hy hx).mp h) p e s m args below meth c H locs ls hC hH hS hl) (fun h => kf (Int.not_le.mp (fun g => h ((zle hy hx).mpr g))) p e s m args below meth c H locs ls hC hH hS hl)
theorem zr_if_gt {x off : Int} {tgt : Nat} (hd : decode d.2.1 pc = .ok (.ifCond .gt off, 3)) (ht : (pc : Int) + off = (tgt : Int)) (hp : pc + 3 = pc') (hx : zR x) (kt : 0 < x → zA E N cu d tgt al st M Q) (kf : x ≤ 0 → zA E N cu d pc' al st M Q) : zA E N cu d pc al (.inl x :: st) M Q := by
  subst hp
  intro p e s m args below meth c H locs ls hC hH hS hl
  exact lv_if_gt hC.1.1 hC.1.2.1 hd ht (fun h => kt ((zgt0 hx).mp h) p e s m args below meth c H locs ls hC hH hS hl) (fun h => kf (Int.not_lt.mp (fun g => h ((zgt0 hx).mpr g))) p e s m args below meth c H locs ls hC hH hS hl)
theorem zr_icmp_gt {x y off : Int} {tgt : Nat} (hd : decode d.2.1 pc = .ok (.if_icmp .gt off, 3)) (ht : (pc : Int) + off = (tgt : Int)) (hp : pc + 3 = pc') (hx : zR x) (hy : zR y) (kt : y < x → zA E N cu d tgt al st M Q) (kf : x ≤ y → zA E N cu d pc' al st M Q) : zA E N cu d pc al (.inl y :: .inl x :: st) M Q := by
  subst hp
  intro p e s m args below meth c H locs ls hC hH hS hl
  exact lv_icmp_gt hC.1.1 hC.1.2.1 hd ht (fun h => kt ((zlt hy hx).mp h) p e s m args below meth c H locs ls hC hH hS hl) (fun h => kf (Int.not_lt.mp (fun g => h ((zlt hy hx).mpr g))) p e s m args below meth c H locs ls hC hH hS hl)
theorem zr_if_le {x off : Int} {tgt : Nat} (hd : decode d.2.1 pc = .ok (.ifCond .le off, 3)) (ht : (pc : Int) + off = (tgt : Int)) (hp : pc + 3 = pc') (hx : zR x) (kt : x ≤ 0 → zA E N cu d tgt al st M Q) (kf : 0 < x → zA E N cu d pc' al st M Q) : zA E N cu d pc al (.inl x :: st) M Q := by
  subst hp
  intro p e s m args below meth c H locs ls hC hH hS hl
  exact lv_if_le hC.1.1 hC.1.2.1 hd ht (fun h => kt ((zle0 hx).mp h) p e s m args below meth c H locs ls hC hH hS hl) (fun h => kf (Int.not_le.mp (fun g => h ((zle0 hx).mpr g))) p e s m args below meth c H locs ls hC hH hS hl)
theorem zr_icmp_le {x y off : Int} {tgt : Nat} (hd : decode d.2.1 pc = .ok (.if_icmp .le off, 3)) (ht : (pc : Int) + off = (tgt : Int)) (hp : pc + 3 = pc') (hx : zR x) (hy : zR y) (kt : x ≤ y → zA E N cu d tgt al st M Q) (kf : y < x → zA E N cu d pc' al st M Q) : zA E N cu d pc al (.inl y :: .inl x :: st) M Q := by
  subst hp
  intro p e s m args below meth c H locs ls hC hH hS hl
  exact lv_icmp_le hC.1.1 hC.1.2.1 hd ht (fun h => kt ((zle hx hy).mp h) p e s m args below meth c H locs ls hC hH hS hl) (fun h => kf (Int.not_le.mp (fun g => h ((zle hx hy).mpr g))) p e s m args below meth c H locs ls hC hH hS hl)
theorem zr_tableOut {dflt lo hi : Int} {offs : Array Int} {len : Nat} {x : Int} {tgt : Nat} (hd : decode d.2.1 pc = .ok (.tableswitch dflt lo hi offs, len)) (hx : zR x) (h : x < lo ∨ hi < x) (ht : (pc : Int) + dflt = (tgt : Int)) (k : zA E N cu d tgt al st M Q) : zA E N cu d pc al (.inl x :: st) M Q := by
  intro p e s m args below meth c H locs ls hC hH hS hl
  exact lv_tableOut hC.1.1 hC.1.2.1 hd (by rw [zI hx]; exact h) ht (k p e s m args below meth c H locs ls hC hH hS hl)
theorem zr_tableIn {dflt lo hi : Int} {offs : Array Int} {len : Nat} {x off : Int} {tgt : Nat} (hd : decode d.2.1 pc = .ok (.tableswitch dflt lo hi offs, len)) (hx : zR x) (h1 : lo ≤ x) (h2 : x ≤ hi) (ho : offs[(x - lo).toNat]? = some off) (ht : (pc : Int) + off = (tgt : Int)) (k : zA E N cu d tgt al st M Q) : zA E N cu d pc al (.inl x :: st) M Q := by
  intro p e s m args below meth c H locs ls hC hH hS hl
  exact lv_tableIn hC.1.1 hC.1.2.1 hd (by rw [zI hx]; omega) (by rw [zI hx]; omega) (by rw [zI hx]; exact ho) ht (k p e s m args below meth c H locs ls hC hH hS hl)
theorem zr_lookup {dflt : Int} {ps : Array (Int × Int)} {len : Nat} {x off : Int} {tgt : Nat} (hd : decode d.2.1 pc = .ok (.lookupswitch dflt ps, len)) (hs : (ps.toList.zip (ps.toList.drop 1)).all (fun (a, next) => a.1 < next.1) = true) (hx : zR x) (ho : Op.lookupswitch.offset ps.toList dflt x = off) (ht : (pc : Int) + off = (tgt : Int)) (k : zA E N cu d tgt al st M Q) : zA E N cu d pc al (.inl x :: st) M Q := by
  intro p e s m args below meth c H locs ls hC hH hS hl
  exact lv_lookup hC.1.1 hC.1.2.1 hd hs (by rw [zI hx]; exact ho) ht (k p e s m args below meth c H locs ls hC hH hS hl)
end zr
