def ztb (j : Nat) : List Cond := match j with
  | 1 => tables_1_1
  | 2 => tables_1_2
  | 3 => tables_1_3
  | 4 => tables_1_4
  | 5 => tables_1_5
  | 6 => tables_1_6
  | 7 => tables_1_7
  | 8 => tables_1_8
  | 9 => tables_1_9
  | _ => []
theorem ztb_in : ∀ (j : Nat) {w : Cond}, w ∈ ztb j → w ∈ lw_tbl
  | 1, _, h => List.mem_append_right _ (List.mem_append_left _ h)
  | 2, _, h => List.mem_append_right _ (List.mem_append_right _ (List.mem_append_left _ h))
  | 3, _, h => List.mem_append_right _ (List.mem_append_right _ (List.mem_append_right _ (List.mem_append_left _ h)))
  | 4, _, h => List.mem_append_right _ (List.mem_append_right _ (List.mem_append_right _ (List.mem_append_right _ (List.mem_append_left _ h))))
  | 5, _, h => List.mem_append_right _ (List.mem_append_right _ (List.mem_append_right _ (List.mem_append_right _ (List.mem_append_right _ (List.mem_append_left _ h)))))
  | 6, _, h => List.mem_append_right _ (List.mem_append_right _ (List.mem_append_right _ (List.mem_append_right _ (List.mem_append_right _ (List.mem_append_right _ (List.mem_append_left _ h))))))
  | 7, _, h => List.mem_append_right _ (List.mem_append_right _ (List.mem_append_right _ (List.mem_append_right _ (List.mem_append_right _ (List.mem_append_right _ (List.mem_append_right _ (List.mem_append_left _ h)))))))
  | 8, _, h => List.mem_append_right _ (List.mem_append_right _ (List.mem_append_right _ (List.mem_append_right _ (List.mem_append_right _ (List.mem_append_right _ (List.mem_append_right _ (List.mem_append_right _ (List.mem_append_left _ h))))))))
  | 9, _, h => List.mem_append_right _ (List.mem_append_right _ (List.mem_append_right _ (List.mem_append_right _ (List.mem_append_right _ (List.mem_append_right _ (List.mem_append_right _ (List.mem_append_right _ (List.mem_append_right _ h))))))))
  | 0, _, h => by cases h
  | (n + 10), _, h => by cases h
theorem zi (j i : Nat) {w : Cond} (h : (ztb j)[i]? = some w) (hg : goodWord w = true) : w ∈ zT := List.mem_filter.mpr ⟨ztb_in j (List.mem_of_getElem? h), hg⟩
def zpv (j : Nat) : List (MethodName × Nat) := match j with
  | 1 => lw_privs_1
  | 2 => lw_privs_2
  | 3 => lw_privs_3
  | 4 => lw_privs_4
  | 5 => lw_privs_5
  | 6 => lw_privs_6
  | 7 => lw_privs_7
  | _ => []
theorem zpv_in : ∀ (j : Nat) {w : MethodName × Nat}, w ∈ zpv j → w ∈ lw_privs
  | 1, _, h => List.mem_append_left _ h
  | 2, _, h => List.mem_append_right _ (List.mem_append_left _ h)
  | 3, _, h => List.mem_append_right _ (List.mem_append_right _ (List.mem_append_left _ h))
  | 4, _, h => List.mem_append_right _ (List.mem_append_right _ (List.mem_append_right _ (List.mem_append_left _ h)))
  | 5, _, h => List.mem_append_right _ (List.mem_append_right _ (List.mem_append_right _ (List.mem_append_right _ (List.mem_append_left _ h))))
  | 6, _, h => List.mem_append_right _ (List.mem_append_right _ (List.mem_append_right _ (List.mem_append_right _ (List.mem_append_right _ (List.mem_append_left _ h)))))
  | 7, _, h => List.mem_append_right _ (List.mem_append_right _ (List.mem_append_right _ (List.mem_append_right _ (List.mem_append_right _ (List.mem_append_right _ h)))))
  | 0, _, h => by cases h
  | (n + 8), _, h => by cases h
theorem zip (j i : Nat) {y : MethodName} {n : Nat} (h : (zpv j)[i]? = some (y, n)) : Cond.selects y.cls y y ∈ zT :=
  List.mem_filter.mpr ⟨List.mem_append_left _ (List.mem_map.mpr ⟨(y, n), zpv_in j (List.mem_of_getElem? h), rfl⟩), rfl⟩
theorem zuw {C : String} {T : u_T} {Nf : Nat} (ps : List (Nat × Nat)) (h : u_ws C T Nf = ps.filterMap (fun q => (ztb q.1)[q.2]?)) (hg : (u_ws C T Nf).all goodWord = true) : ∀ w ∈ u_ws C T Nf, w ∈ zT := fun w hw => by
  have h1 := List.all_eq_true.mp hg w hw
  rw [h] at hw
  obtain ⟨q, -, hq⟩ := List.mem_filterMap.mp hw
  exact List.mem_filter.mpr ⟨ztb_in q.1 (List.mem_of_getElem? hq), h1⟩
