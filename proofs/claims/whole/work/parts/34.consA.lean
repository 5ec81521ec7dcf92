/-! constructors -/
def zNk (k : Nat) : zN := (zKs.take k, fun _ _ => none, true)
theorem zNk_s {k : Nat} {kd : Nat × Nat} (h : zKs[k]? = some kd) : zNx (zNk k) kd = zNk (k + 1) := by
  unfold zNx zNk
  rw [List.take_succ, h]
  rfl
theorem zNk_len {k : Nat} (h : k ≤ zKs.length) : (zNk k).1.length = k := by
  show (zKs.take k).length = k
  rw [List.length_take]
  omega
theorem zNk_kd {k a : Nat} {kd : Nat × Nat} (h : zKs[a]? = some kd) (hk : a < k) : (zNk k).1[((a : Int)).toNat]? = some kd := by
  show (zKs.take k)[a]? = some kd
  rw [List.getElem?_take, if_pos hk]
  exact h
theorem zKs_lt {k : Nat} {kd : Nat × Nat} (h : zKs[k]? = some kd) : k < zKs.length := (List.getElem?_eq_some_iff.mp h).1
section zk
variable {E : zE} {cu cu' : Nat × Nat} {d : zD} {pc pc' : Nat} {al al' : List (Nat × zV)} {st : List zV} {M : zM} {Q : Int → zN → zM → Prop}
theorem zk_new {k k' ci nf idx : Nat} {C : String} {T : u_T} (hd : decode d.2.1 pc = .ok (.new idx, 3)) (hp : pc + 3 = pc') (hk : zKs[k]? = some (ci, 0)) (hk' : k + 1 = k') (hc : zKc ci) (h1 : vwCl[ci]? = some (C, T, nf)) (hok : ∀ j, j < nf → zTk (zty ci j) = true) (w1 : Cond.classLink d.2.2.2.2.1 idx C ∈ zT) (w2 : Cond.instantiable C nf ∈ zT) (w3 : Cond.initialized C ∈ zT) (hcu : (cu.1 + 1, cu.2 + nf) = cu') (h2 : cu'.1 ≤ d.2.2.2.2.2.1.cells) (h3 : cu'.2 ≤ d.2.2.2.2.2.1.slots)
    (kk : ∀ M1, M1 = zal M k (ci, 0) → zA E (zNk k') cu' d pc' al (.inr (.inr (k : Int)) :: st) M1 Q) : zA E (zNk k) cu d pc al st M Q := by
  subst hcu hk'
  have hl := zNk_len (Nat.le_of_lt (zKs_lt hk))
  refine zr_new hd hp rfl rfl hc h1 hok w1 w2 w3 ⟨h2, h3⟩ ?_
  rw [zNk_s hk, hl]
  exact kk _ rfl
theorem zk_newa {k k' t n : Nat} {at_ : ArrayType} {ty : FieldType} {t0 : Nat} (hd : decode d.2.1 pc = .ok (.newarray at_, 2)) (hp : pc + 2 = pc') (hk : zKs[k]? = some (t, n)) (hk' : k + 1 = k') (hty : newarray.typeOf at_ = ty) (h100 : t = 100 ∧ ty = .int ∨ t = 101 ∧ ty = .long ∨ t = 102 ∧ ty = .boolean) (ht0 : ∀ E : zE, (ztys E)[t0]? = some (E.2.2.1 t, ty)) (w1 : Cond.arrayClass ty ∈ zT) (hn : n * 8 ≤ 536870912) (hcu : (cu.1 + 1, cu.2 + n) = cu') (h2 : cu'.1 ≤ d.2.2.2.2.2.1.cells) (h3 : cu'.2 ≤ d.2.2.2.2.2.1.slots)
    (kk : ∀ M1, M1 = zal M k (t, n) → zA E (zNk k') cu' d pc' al (.inr (.inr (k : Int)) :: st) M1 Q) : zA E (zNk k) cu d pc al (.inl (n : Int) :: st) M Q := by
  subst hcu hk'
  have hl := zNk_len (Nat.le_of_lt (zKs_lt hk))
  refine zr_newa (t0 := t0) hd hp rfl hty h100 ht0 w1 hn ⟨h2, h3⟩ ?_
  rw [zNk_s hk, hl]
  exact kk _ rfl
theorem zk_newq {k k' t n idx t0 : Nat} {C : String} (hd : decode d.2.1 pc = .ok (.anewarray idx, 3)) (hp : pc + 3 = pc') (hk : zKs[k]? = some (t, n)) (hk' : k + 1 = k') (ht : 103 ≤ t) (ht0 : ∀ E : zE, (ztys E)[t0]? = some (E.2.2.1 t, .object C)) (w1 : Cond.classLink d.2.2.2.2.1 idx C ∈ zT) (w2 : C ∈ zAos) (hn : n * 4 ≤ 536870912) (hcu : (cu.1 + 1, cu.2 + n) = cu') (h2 : cu'.1 ≤ d.2.2.2.2.2.1.cells) (h3 : cu'.2 ≤ d.2.2.2.2.2.1.slots)
    (kk : ∀ M1, M1 = zal M k (t, n) → zA E (zNk k') cu' d pc' al (.inr (.inr (k : Int)) :: st) M1 Q) : zA E (zNk k) cu d pc al (.inl (n : Int) :: st) M Q := by
  subst hcu hk'
  have hl := zNk_len (Nat.le_of_lt (zKs_lt hk))
  refine zr_newq (t0 := t0) hd hp rfl ht ht0 w1 w2 hn ⟨h2, h3⟩ ?_
  rw [zNk_s hk, hl]
  exact kk _ rfl
theorem zk_callI {k k' : Nat} {d2 : zD} {idx : Nat} {b : Int} {f : zM → zM} (hd : decode d.2.1 pc = .ok (.invokespecial idx, 3)) (hp : pc + 3 = pc') (hw : zCi d.2.2.2.2.1 idx d2 0) (hR : zRm d d2) (hb : 0 ≤ b) (h8 : (st.map zcat).sum ≤ 8) (hcu : (cu.1 + d2.2.2.2.2.2.2.1, cu.2 + d2.2.2.2.2.2.2.2) = cu') (h2 : cu'.1 ≤ d.2.2.2.2.2.1.cells) (h3 : cu'.2 ≤ d.2.2.2.2.2.1.slots) (hkk : k + d2.2.2.2.2.2.2.1 = k') (hk : k' ≤ zKs.length)
    (hM : zC E (zNk k) d2 [.inr (.inr b)] M (fun _ N' M' => N' = zNk k' ∧ M' = f M)) (kk : ∀ M1, M1 = f M → zA E (zNk k') cu' d pc' al st M1 Q) : zA E (zNk k) cu d pc al (.inr (.inr b) :: st) M Q := by
  subst hcu
  refine zr_callI (args := []) hd hp hw hR hb rfl rfl h8 ⟨h2, h3⟩ (fun r N' M' h _ => ⟨rfl, ?_⟩) hM (fun r N' M' h => ?_)
  · rw [h.1, zNk_len hk, zNk_len (by omega), hkk]
  · obtain ⟨rfl, h⟩ := h
    exact kk _ h
theorem zk_callIN {k k' : Nat} {d2 : zD} {host : String} {idx : Nat} {b : Int} {f : zM → zM} (hd : decode d.2.1 pc = .ok (.invokespecial idx, 3)) (hp : pc + 3 = pc') (hw : zCin d.2.2.2.2.1 host idx d2 0) (hR : zRm d d2) (hb : 0 ≤ b) (h8 : (st.map zcat).sum ≤ 8) (hcu : (cu.1 + d2.2.2.2.2.2.2.1, cu.2 + d2.2.2.2.2.2.2.2) = cu') (h2 : cu'.1 ≤ d.2.2.2.2.2.1.cells) (h3 : cu'.2 ≤ d.2.2.2.2.2.1.slots) (hkk : k + d2.2.2.2.2.2.2.1 = k') (hk : k' ≤ zKs.length)
    (hM : zC E (zNk k) d2 [.inr (.inr b)] M (fun _ N' M' => N' = zNk k' ∧ M' = f M)) (kk : ∀ M1, M1 = f M → zA E (zNk k') cu' d pc' al st M1 Q) : zA E (zNk k) cu d pc al (.inr (.inr b) :: st) M Q := by
  subst hcu
  refine zr_callIN (args := []) hd hp hw hR hb rfl rfl h8 ⟨h2, h3⟩ (fun r N' M' h _ => ⟨rfl, ?_⟩) hM (fun r N' M' h => ?_)
  · rw [h.1, zNk_len hk, zNk_len (by omega), hkk]
  · obtain ⟨rfl, h⟩ := h
    exact kk _ h
theorem zk_fill {k : Nat} {d2 : zD} {idx n : Nat} {a v : Int} (hd : decode d.2.1 pc = .ok (.invokestatic idx, 3)) (hp : pc + 3 = pc') (hw : zCs d.2.2.2.2.1 idx d2 2) (hR : zRm d d2) (hm : d2.2.2.2.2.2.2 = (0, 0)) (h0 : d2.2.2.2.1 = none) (h8 : (st.map zcat).sum ≤ 8) (h2 : cu.1 ≤ d.2.2.2.2.2.1.cells) (h3 : cu.2 ≤ d.2.2.2.2.2.1.slots)
    (hM : zC E (zNk k) d2 [.inr (.inr a), .inl v] M (fun _ N' M' => N' = zNk k ∧ M' = zfill M a.toNat n v)) (kk : ∀ M1, M1 = zfill M a.toNat n v → zA E (zNk k) cu d pc' al st M1 Q) : zA E (zNk k) cu d pc al (.inl v :: .inr (.inr a) :: st) M Q := by
  refine zr_callS (args := [.inr (.inr a), .inl v]) (st' := fun _ => st) hd hp hw hR rfl rfl h8 ⟨by rw [hm]; exact h2, by rw [hm]; exact h3⟩ (fun r => by rw [h0]; rfl) (fun r N' M' h _ => ⟨rfl, ?_⟩) hM (fun r N' M' h => ?_)
  · rw [h.1, hm]; rfl
  · obtain ⟨rfl, h⟩ := h
    rw [hm]
    exact kk _ h
end zk
theorem dX0_init_0 : decode cX0_init 0 = .ok (.aload_n 0, 1) := by decide +kernel
theorem dX0_init_1 : decode cX0_init 1 = .ok (.invokespecial 5, 3) := by decide +kernel
theorem dX0_init_4 : decode cX0_init 4 = .ok (.aload_n 0, 1) := by decide +kernel
theorem dX0_init_5 : decode cX0_init 5 = .ok (.sipush 832, 3) := by decide +kernel
theorem dX0_init_8 : decode cX0_init 8 = .ok (.newarray .int, 2) := by decide +kernel
theorem dX0_init_10 : decode cX0_init 10 = .ok (.putfield 13, 3) := by decide +kernel
theorem dX0_init_13 : decode cX0_init 13 = .ok (.aload_n 0, 1) := by decide +kernel
theorem dX0_init_14 : decode cX0_init 14 = .ok (.sipush 832, 3) := by decide +kernel
theorem dX0_init_17 : decode cX0_init 17 = .ok (.newarray .int, 2) := by decide +kernel
theorem dX0_init_19 : decode cX0_init 19 = .ok (.putfield 17, 3) := by decide +kernel
theorem dX0_init_22 : decode cX0_init 22 = .ok (.aload_n 0, 1) := by decide +kernel
theorem dX0_init_23 : decode cX0_init 23 = .ok (.bipush 64, 2) := by decide +kernel
theorem dX0_init_25 : decode cX0_init 25 = .ok (.newarray .int, 2) := by decide +kernel
theorem dX0_init_27 : decode cX0_init 27 = .ok (.putfield 20, 3) := by decide +kernel
theorem dX0_init_30 : decode cX0_init 30 = .ok (.aload_n 0, 1) := by decide +kernel
theorem dX0_init_31 : decode cX0_init 31 = .ok (.bipush 64, 2) := by decide +kernel
theorem dX0_init_33 : decode cX0_init 33 = .ok (.newarray .int, 2) := by decide +kernel
theorem dX0_init_35 : decode cX0_init 35 = .ok (.putfield 23, 3) := by decide +kernel
theorem dX0_init_38 : decode cX0_init 38 = .ok (.aload_n 0, 1) := by decide +kernel
theorem dX0_init_39 : decode cX0_init 39 = .ok (.bipush 64, 2) := by decide +kernel
theorem dX0_init_41 : decode cX0_init 41 = .ok (.newarray .int, 2) := by decide +kernel
theorem dX0_init_43 : decode cX0_init 43 = .ok (.putfield 26, 3) := by decide +kernel
theorem dX0_init_46 : decode cX0_init 46 = .ok (.aload_n 0, 1) := by decide +kernel
theorem dX0_init_47 : decode cX0_init 47 = .ok (.bipush 64, 2) := by decide +kernel
theorem dX0_init_49 : decode cX0_init 49 = .ok (.newarray .int, 2) := by decide +kernel
theorem dX0_init_51 : decode cX0_init 51 = .ok (.putfield 29, 3) := by decide +kernel
theorem dX0_init_54 : decode cX0_init 54 = .ok (.aload_n 0, 1) := by decide +kernel
theorem dX0_init_55 : decode cX0_init 55 = .ok (.sipush 202, 3) := by decide +kernel
theorem dX0_init_58 : decode cX0_init 58 = .ok (.newarray .int, 2) := by decide +kernel
theorem dX0_init_60 : decode cX0_init 60 = .ok (.putfield 34, 3) := by decide +kernel
theorem dX0_init_63 : decode cX0_init 63 = .ok (.aload_n 0, 1) := by decide +kernel
theorem dX0_init_64 : decode cX0_init 64 = .ok (.bipush 8, 2) := by decide +kernel
theorem dX0_init_66 : decode cX0_init 66 = .ok (.newarray .int, 2) := by decide +kernel
theorem dX0_init_68 : decode cX0_init 68 = .ok (.putfield 39, 3) := by decide +kernel
theorem dX0_init_71 : decode cX0_init 71 = .ok (.return_, 1) := by decide +kernel
theorem dX1_init_0 : decode cX1_init 0 = .ok (.aload_n 0, 1) := by decide +kernel
theorem dX1_init_1 : decode cX1_init 1 = .ok (.invokespecial 3, 3) := by decide +kernel
theorem dX1_init_4 : decode cX1_init 4 = .ok (.aload_n 0, 1) := by decide +kernel
theorem dX1_init_5 : decode cX1_init 5 = .ok (.iconst 4, 1) := by decide +kernel
theorem dX1_init_6 : decode cX1_init 6 = .ok (.putfield 9, 3) := by decide +kernel
theorem dX1_init_9 : decode cX1_init 9 = .ok (.aload_n 0, 1) := by decide +kernel
theorem dX1_init_10 : decode cX1_init 10 = .ok (.bipush 16, 2) := by decide +kernel
theorem dX1_init_12 : decode cX1_init 12 = .ok (.putfield 15, 3) := by decide +kernel
theorem dX1_init_15 : decode cX1_init 15 = .ok (.aload_n 0, 1) := by decide +kernel
theorem dX1_init_16 : decode cX1_init 16 = .ok (.bipush 64, 2) := by decide +kernel
theorem dX1_init_18 : decode cX1_init 18 = .ok (.newarray .int, 2) := by decide +kernel
theorem dX1_init_20 : decode cX1_init 20 = .ok (.putfield 18, 3) := by decide +kernel
theorem dX1_init_23 : decode cX1_init 23 = .ok (.aload_n 0, 1) := by decide +kernel
theorem dX1_init_24 : decode cX1_init 24 = .ok (.bipush 64, 2) := by decide +kernel
theorem dX1_init_26 : decode cX1_init 26 = .ok (.newarray .int, 2) := by decide +kernel
theorem dX1_init_28 : decode cX1_init 28 = .ok (.putfield 22, 3) := by decide +kernel
theorem dX1_init_31 : decode cX1_init 31 = .ok (.aload_n 0, 1) := by decide +kernel
theorem dX1_init_32 : decode cX1_init 32 = .ok (.bipush 64, 2) := by decide +kernel
theorem dX1_init_34 : decode cX1_init 34 = .ok (.newarray .int, 2) := by decide +kernel
theorem dX1_init_36 : decode cX1_init 36 = .ok (.putfield 25, 3) := by decide +kernel
theorem dX1_init_39 : decode cX1_init 39 = .ok (.aload_n 0, 1) := by decide +kernel
theorem dX1_init_40 : decode cX1_init 40 = .ok (.bipush 6, 2) := by decide +kernel
theorem dX1_init_42 : decode cX1_init 42 = .ok (.newarray .int, 2) := by decide +kernel
theorem dX1_init_44 : decode cX1_init 44 = .ok (.putfield 28, 3) := by decide +kernel
theorem dX1_init_47 : decode cX1_init 47 = .ok (.return_, 1) := by decide +kernel
theorem dX2_init_0 : decode cX2_init 0 = .ok (.aload_n 0, 1) := by decide +kernel
theorem dX2_init_1 : decode cX2_init 1 = .ok (.invokespecial 9, 3) := by decide +kernel
theorem dX2_init_4 : decode cX2_init 4 = .ok (.aload_n 0, 1) := by decide +kernel
theorem dX2_init_5 : decode cX2_init 5 = .ok (.sipush 202, 3) := by decide +kernel
theorem dX2_init_8 : decode cX2_init 8 = .ok (.newarray .int, 2) := by decide +kernel
theorem dX2_init_10 : decode cX2_init 10 = .ok (.putfield 15, 3) := by decide +kernel
theorem dX2_init_13 : decode cX2_init 13 = .ok (.aload_n 0, 1) := by decide +kernel
theorem dX2_init_14 : decode cX2_init 14 = .ok (.sipush 1088, 3) := by decide +kernel
theorem dX2_init_17 : decode cX2_init 17 = .ok (.newarray .int, 2) := by decide +kernel
theorem dX2_init_19 : decode cX2_init 19 = .ok (.putfield 19, 3) := by decide +kernel
theorem dX2_init_22 : decode cX2_init 22 = .ok (.aload_n 0, 1) := by decide +kernel
theorem dX2_init_23 : decode cX2_init 23 = .ok (.sipush 1088, 3) := by decide +kernel
theorem dX2_init_26 : decode cX2_init 26 = .ok (.newarray .int, 2) := by decide +kernel
theorem dX2_init_28 : decode cX2_init 28 = .ok (.putfield 22, 3) := by decide +kernel
theorem dX2_init_31 : decode cX2_init 31 = .ok (.aload_n 0, 1) := by decide +kernel
theorem dX2_init_32 : decode cX2_init 32 = .ok (.sipush 1088, 3) := by decide +kernel
theorem dX2_init_35 : decode cX2_init 35 = .ok (.newarray .int, 2) := by decide +kernel
theorem dX2_init_37 : decode cX2_init 37 = .ok (.putfield 25, 3) := by decide +kernel
theorem dX2_init_40 : decode cX2_init 40 = .ok (.aload_n 0, 1) := by decide +kernel
theorem dX2_init_41 : decode cX2_init 41 = .ok (.sipush 202, 3) := by decide +kernel
theorem dX2_init_44 : decode cX2_init 44 = .ok (.newarray .int, 2) := by decide +kernel
theorem dX2_init_46 : decode cX2_init 46 = .ok (.putfield 28, 3) := by decide +kernel
theorem dX2_init_49 : decode cX2_init 49 = .ok (.aload_n 0, 1) := by decide +kernel
theorem dX2_init_50 : decode cX2_init 50 = .ok (.sipush 202, 3) := by decide +kernel
theorem dX2_init_53 : decode cX2_init 53 = .ok (.newarray .int, 2) := by decide +kernel
theorem dX2_init_55 : decode cX2_init 55 = .ok (.putfield 31, 3) := by decide +kernel
theorem dX2_init_58 : decode cX2_init 58 = .ok (.aload_n 0, 1) := by decide +kernel
theorem dX2_init_59 : decode cX2_init 59 = .ok (.sipush 202, 3) := by decide +kernel
theorem dX2_init_62 : decode cX2_init 62 = .ok (.newarray .int, 2) := by decide +kernel
theorem dX2_init_64 : decode cX2_init 64 = .ok (.putfield 34, 3) := by decide +kernel
theorem dX2_init_67 : decode cX2_init 67 = .ok (.aload_n 0, 1) := by decide +kernel
theorem dX2_init_68 : decode cX2_init 68 = .ok (.sipush 202, 3) := by decide +kernel
theorem dX2_init_71 : decode cX2_init 71 = .ok (.newarray .int, 2) := by decide +kernel
theorem dX2_init_73 : decode cX2_init 73 = .ok (.putfield 37, 3) := by decide +kernel
theorem dX2_init_76 : decode cX2_init 76 = .ok (.return_, 1) := by decide +kernel
theorem dX3_init_0 : decode cX3_init 0 = .ok (.aload_n 0, 1) := by decide +kernel
theorem dX3_init_1 : decode cX3_init 1 = .ok (.invokespecial 3, 3) := by decide +kernel
theorem dX3_init_4 : decode cX3_init 4 = .ok (.aload_n 0, 1) := by decide +kernel
theorem dX3_init_5 : decode cX3_init 5 = .ok (.bipush 8, 2) := by decide +kernel
theorem dX3_init_7 : decode cX3_init 7 = .ok (.newarray .int, 2) := by decide +kernel
theorem dX3_init_9 : decode cX3_init 9 = .ok (.putfield 11, 3) := by decide +kernel
theorem dX3_init_12 : decode cX3_init 12 = .ok (.aload_n 0, 1) := by decide +kernel
theorem dX3_init_13 : decode cX3_init 13 = .ok (.bipush 8, 2) := by decide +kernel
theorem dX3_init_15 : decode cX3_init 15 = .ok (.newarray .int, 2) := by decide +kernel
theorem dX3_init_17 : decode cX3_init 17 = .ok (.putfield 15, 3) := by decide +kernel
theorem dX3_init_20 : decode cX3_init 20 = .ok (.aload_n 0, 1) := by decide +kernel
theorem dX3_init_21 : decode cX3_init 21 = .ok (.bipush 8, 2) := by decide +kernel
theorem dX3_init_23 : decode cX3_init 23 = .ok (.newarray .int, 2) := by decide +kernel
theorem dX3_init_25 : decode cX3_init 25 = .ok (.putfield 18, 3) := by decide +kernel
theorem dX3_init_28 : decode cX3_init 28 = .ok (.aload_n 0, 1) := by decide +kernel
theorem dX3_init_29 : decode cX3_init 29 = .ok (.bipush 8, 2) := by decide +kernel
theorem dX3_init_31 : decode cX3_init 31 = .ok (.newarray .int, 2) := by decide +kernel
theorem dX3_init_33 : decode cX3_init 33 = .ok (.putfield 21, 3) := by decide +kernel
theorem dX3_init_36 : decode cX3_init 36 = .ok (.aload_n 0, 1) := by decide +kernel
theorem dX3_init_37 : decode cX3_init 37 = .ok (.bipush 8, 2) := by decide +kernel
theorem dX3_init_39 : decode cX3_init 39 = .ok (.newarray .int, 2) := by decide +kernel
theorem dX3_init_41 : decode cX3_init 41 = .ok (.putfield 24, 3) := by decide +kernel
theorem dX3_init_44 : decode cX3_init 44 = .ok (.aload_n 0, 1) := by decide +kernel
theorem dX3_init_45 : decode cX3_init 45 = .ok (.bipush 8, 2) := by decide +kernel
theorem dX3_init_47 : decode cX3_init 47 = .ok (.newarray .int, 2) := by decide +kernel
theorem dX3_init_49 : decode cX3_init 49 = .ok (.putfield 27, 3) := by decide +kernel
theorem dX3_init_52 : decode cX3_init 52 = .ok (.aload_n 0, 1) := by decide +kernel
theorem dX3_init_53 : decode cX3_init 53 = .ok (.bipush 14, 2) := by decide +kernel
theorem dX3_init_55 : decode cX3_init 55 = .ok (.newarray .int, 2) := by decide +kernel
theorem dX3_init_57 : decode cX3_init 57 = .ok (.putfield 30, 3) := by decide +kernel
theorem dX3_init_60 : decode cX3_init 60 = .ok (.aload_n 0, 1) := by decide +kernel
theorem dX3_init_61 : decode cX3_init 61 = .ok (.bipush 14, 2) := by decide +kernel
theorem dX3_init_63 : decode cX3_init 63 = .ok (.newarray .int, 2) := by decide +kernel
theorem dX3_init_65 : decode cX3_init 65 = .ok (.putfield 33, 3) := by decide +kernel
theorem dX3_init_68 : decode cX3_init 68 = .ok (.aload_n 0, 1) := by decide +kernel
theorem dX3_init_69 : decode cX3_init 69 = .ok (.bipush 14, 2) := by decide +kernel
theorem dX3_init_71 : decode cX3_init 71 = .ok (.newarray .int, 2) := by decide +kernel
theorem dX3_init_73 : decode cX3_init 73 = .ok (.putfield 36, 3) := by decide +kernel
theorem dX3_init_76 : decode cX3_init 76 = .ok (.aload_n 0, 1) := by decide +kernel
theorem dX3_init_77 : decode cX3_init 77 = .ok (.bipush 14, 2) := by decide +kernel
theorem dX3_init_79 : decode cX3_init 79 = .ok (.newarray .int, 2) := by decide +kernel
theorem dX3_init_81 : decode cX3_init 81 = .ok (.putfield 39, 3) := by decide +kernel
theorem dX3_init_84 : decode cX3_init 84 = .ok (.aload_n 0, 1) := by decide +kernel
theorem dX3_init_85 : decode cX3_init 85 = .ok (.bipush 14, 2) := by decide +kernel
theorem dX3_init_87 : decode cX3_init 87 = .ok (.newarray .int, 2) := by decide +kernel
theorem dX3_init_89 : decode cX3_init 89 = .ok (.putfield 42, 3) := by decide +kernel
theorem dX3_init_92 : decode cX3_init 92 = .ok (.aload_n 0, 1) := by decide +kernel
theorem dX3_init_93 : decode cX3_init 93 = .ok (.bipush 14, 2) := by decide +kernel
theorem dX3_init_95 : decode cX3_init 95 = .ok (.newarray .int, 2) := by decide +kernel
theorem dX3_init_97 : decode cX3_init 97 = .ok (.putfield 45, 3) := by decide +kernel
theorem dX3_init_100 : decode cX3_init 100 = .ok (.return_, 1) := by decide +kernel
theorem dX4_init_0 : decode cX4_init 0 = .ok (.aload_n 0, 1) := by decide +kernel
theorem dX4_init_1 : decode cX4_init 1 = .ok (.invokespecial 3, 3) := by decide +kernel
theorem dX4_init_4 : decode cX4_init 4 = .ok (.return_, 1) := by decide +kernel
theorem dX5_init_0 : decode cX5_init 0 = .ok (.aload_n 0, 1) := by decide +kernel
theorem dX5_init_1 : decode cX5_init 1 = .ok (.invokespecial 3, 3) := by decide +kernel
theorem dX5_init_4 : decode cX5_init 4 = .ok (.aload_n 0, 1) := by decide +kernel
theorem dX5_init_5 : decode cX5_init 5 = .ok (.bipush 8, 2) := by decide +kernel
theorem dX5_init_7 : decode cX5_init 7 = .ok (.newarray .int, 2) := by decide +kernel
theorem dX5_init_9 : decode cX5_init 9 = .ok (.putfield 11, 3) := by decide +kernel
theorem dX5_init_12 : decode cX5_init 12 = .ok (.aload_n 0, 1) := by decide +kernel
theorem dX5_init_13 : decode cX5_init 13 = .ok (.sipush 800, 3) := by decide +kernel
theorem dX5_init_16 : decode cX5_init 16 = .ok (.newarray .int, 2) := by decide +kernel
theorem dX5_init_18 : decode cX5_init 18 = .ok (.putfield 15, 3) := by decide +kernel
theorem dX5_init_21 : decode cX5_init 21 = .ok (.aload_n 0, 1) := by decide +kernel
theorem dX5_init_22 : decode cX5_init 22 = .ok (.sipush 400, 3) := by decide +kernel
theorem dX5_init_25 : decode cX5_init 25 = .ok (.newarray .int, 2) := by decide +kernel
theorem dX5_init_27 : decode cX5_init 27 = .ok (.putfield 18, 3) := by decide +kernel
theorem dX5_init_30 : decode cX5_init 30 = .ok (.aload_n 0, 1) := by decide +kernel
theorem dX5_init_31 : decode cX5_init 31 = .ok (.sipush 400, 3) := by decide +kernel
theorem dX5_init_34 : decode cX5_init 34 = .ok (.newarray .int, 2) := by decide +kernel
theorem dX5_init_36 : decode cX5_init 36 = .ok (.putfield 21, 3) := by decide +kernel
theorem dX5_init_39 : decode cX5_init 39 = .ok (.aload_n 0, 1) := by decide +kernel
theorem dX5_init_40 : decode cX5_init 40 = .ok (.sipush 400, 3) := by decide +kernel
theorem dX5_init_43 : decode cX5_init 43 = .ok (.newarray .int, 2) := by decide +kernel
theorem dX5_init_45 : decode cX5_init 45 = .ok (.putfield 24, 3) := by decide +kernel
theorem dX5_init_48 : decode cX5_init 48 = .ok (.aload_n 0, 1) := by decide +kernel
theorem dX5_init_49 : decode cX5_init 49 = .ok (.new 27, 3) := by decide +kernel
theorem dX5_init_52 : decode cX5_init 52 = .ok (.dup, 1) := by decide +kernel
theorem dX5_init_53 : decode cX5_init 53 = .ok (.invokespecial 29, 3) := by decide +kernel
theorem dX5_init_56 : decode cX5_init 56 = .ok (.putfield 30, 3) := by decide +kernel
theorem dX5_init_59 : decode cX5_init 59 = .ok (.aload_n 0, 1) := by decide +kernel
theorem dX5_init_60 : decode cX5_init 60 = .ok (.getfield 15, 3) := by decide +kernel
theorem dX5_init_63 : decode cX5_init 63 = .ok (.iconst (-1), 1) := by decide +kernel
theorem dX5_init_64 : decode cX5_init 64 = .ok (.invokestatic 34, 3) := by decide +kernel
theorem dX5_init_67 : decode cX5_init 67 = .ok (.return_, 1) := by decide +kernel
theorem dX6_init_0 : decode cX6_init 0 = .ok (.aload_n 0, 1) := by decide +kernel
theorem dX6_init_1 : decode cX6_init 1 = .ok (.invokespecial 3, 3) := by decide +kernel
theorem dX6_init_4 : decode cX6_init 4 = .ok (.aload_n 0, 1) := by decide +kernel
theorem dX6_init_5 : decode cX6_init 5 = .ok (.bipush 64, 2) := by decide +kernel
theorem dX6_init_7 : decode cX6_init 7 = .ok (.newarray .int, 2) := by decide +kernel
theorem dX6_init_9 : decode cX6_init 9 = .ok (.putfield 11, 3) := by decide +kernel
theorem dX6_init_12 : decode cX6_init 12 = .ok (.aload_n 0, 1) := by decide +kernel
theorem dX6_init_13 : decode cX6_init 13 = .ok (.bipush 64, 2) := by decide +kernel
theorem dX6_init_15 : decode cX6_init 15 = .ok (.newarray .int, 2) := by decide +kernel
theorem dX6_init_17 : decode cX6_init 17 = .ok (.putfield 15, 3) := by decide +kernel
theorem dX6_init_20 : decode cX6_init 20 = .ok (.aload_n 0, 1) := by decide +kernel
theorem dX6_init_21 : decode cX6_init 21 = .ok (.bipush 64, 2) := by decide +kernel
theorem dX6_init_23 : decode cX6_init 23 = .ok (.newarray .int, 2) := by decide +kernel
theorem dX6_init_25 : decode cX6_init 25 = .ok (.putfield 18, 3) := by decide +kernel
theorem dX6_init_28 : decode cX6_init 28 = .ok (.aload_n 0, 1) := by decide +kernel
theorem dX6_init_29 : decode cX6_init 29 = .ok (.bipush 12, 2) := by decide +kernel
theorem dX6_init_31 : decode cX6_init 31 = .ok (.newarray .int, 2) := by decide +kernel
theorem dX6_init_33 : decode cX6_init 33 = .ok (.putfield 21, 3) := by decide +kernel
theorem dX6_init_36 : decode cX6_init 36 = .ok (.aload_n 0, 1) := by decide +kernel
theorem dX6_init_37 : decode cX6_init 37 = .ok (.bipush 12, 2) := by decide +kernel
theorem dX6_init_39 : decode cX6_init 39 = .ok (.newarray .int, 2) := by decide +kernel
theorem dX6_init_41 : decode cX6_init 41 = .ok (.putfield 24, 3) := by decide +kernel
theorem dX6_init_44 : decode cX6_init 44 = .ok (.aload_n 0, 1) := by decide +kernel
theorem dX6_init_45 : decode cX6_init 45 = .ok (.bipush 64, 2) := by decide +kernel
theorem dX6_init_47 : decode cX6_init 47 = .ok (.newarray .long, 2) := by decide +kernel
theorem dX6_init_49 : decode cX6_init 49 = .ok (.putfield 27, 3) := by decide +kernel
theorem dX6_init_52 : decode cX6_init 52 = .ok (.return_, 1) := by decide +kernel
theorem dX7_init_0 : decode cX7_init 0 = .ok (.aload_n 0, 1) := by decide +kernel
theorem dX7_init_1 : decode cX7_init 1 = .ok (.invokespecial 3, 3) := by decide +kernel
theorem dX7_init_4 : decode cX7_init 4 = .ok (.aload_n 0, 1) := by decide +kernel
theorem dX7_init_5 : decode cX7_init 5 = .ok (.new 9, 3) := by decide +kernel
theorem dX7_init_8 : decode cX7_init 8 = .ok (.dup, 1) := by decide +kernel
theorem dX7_init_9 : decode cX7_init 9 = .ok (.invokespecial 11, 3) := by decide +kernel
theorem dX7_init_12 : decode cX7_init 12 = .ok (.putfield 12, 3) := by decide +kernel
theorem dX7_init_15 : decode cX7_init 15 = .ok (.aload_n 0, 1) := by decide +kernel
theorem dX7_init_16 : decode cX7_init 16 = .ok (.iconst (-1), 1) := by decide +kernel
theorem dX7_init_17 : decode cX7_init 17 = .ok (.putfield 18, 3) := by decide +kernel
theorem dX7_init_20 : decode cX7_init 20 = .ok (.aload_n 0, 1) := by decide +kernel
theorem dX7_init_21 : decode cX7_init 21 = .ok (.bipush 72, 2) := by decide +kernel
theorem dX7_init_23 : decode cX7_init 23 = .ok (.newarray .int, 2) := by decide +kernel
theorem dX7_init_25 : decode cX7_init 25 = .ok (.putfield 24, 3) := by decide +kernel
theorem dX7_init_28 : decode cX7_init 28 = .ok (.aload_n 0, 1) := by decide +kernel
theorem dX7_init_29 : decode cX7_init 29 = .ok (.bipush 9, 2) := by decide +kernel
theorem dX7_init_31 : decode cX7_init 31 = .ok (.newarray .boolean, 2) := by decide +kernel
theorem dX7_init_33 : decode cX7_init 33 = .ok (.putfield 28, 3) := by decide +kernel
theorem dX7_init_36 : decode cX7_init 36 = .ok (.return_, 1) := by decide +kernel
theorem dX8_init_0 : decode cX8_init 0 = .ok (.aload_n 0, 1) := by decide +kernel
theorem dX8_init_1 : decode cX8_init 1 = .ok (.invokespecial 1, 3) := by decide +kernel
theorem dX8_init_4 : decode cX8_init 4 = .ok (.return_, 1) := by decide +kernel
theorem dX9_init_0 : decode cX9_init 0 = .ok (.aload_n 0, 1) := by decide +kernel
theorem dX9_init_1 : decode cX9_init 1 = .ok (.invokespecial 1, 3) := by decide +kernel
theorem dX9_init_4 : decode cX9_init 4 = .ok (.aload_n 0, 1) := by decide +kernel
theorem dX9_init_5 : decode cX9_init 5 = .ok (.sipush 500, 3) := by decide +kernel
theorem dX9_init_8 : decode cX9_init 8 = .ok (.newarray .int, 2) := by decide +kernel
theorem dX9_init_10 : decode cX9_init 10 = .ok (.putfield 9, 3) := by decide +kernel
theorem dX9_init_13 : decode cX9_init 13 = .ok (.return_, 1) := by decide +kernel
theorem dX10_init_0 : decode cX10_init 0 = .ok (.aload_n 0, 1) := by decide +kernel
theorem dX10_init_1 : decode cX10_init 1 = .ok (.invokespecial 1, 3) := by decide +kernel
theorem dX10_init_4 : decode cX10_init 4 = .ok (.return_, 1) := by decide +kernel
theorem dX11_init_0 : decode cX11_init 0 = .ok (.aload_n 0, 1) := by decide +kernel
theorem dX11_init_1 : decode cX11_init 1 = .ok (.invokespecial 1, 3) := by decide +kernel
theorem dX11_init_4 : decode cX11_init 4 = .ok (.aload_n 0, 1) := by decide +kernel
theorem dX11_init_5 : decode cX11_init 5 = .ok (.new 7, 3) := by decide +kernel
theorem dX11_init_8 : decode cX11_init 8 = .ok (.dup, 1) := by decide +kernel
theorem dX11_init_9 : decode cX11_init 9 = .ok (.invokespecial 9, 3) := by decide +kernel
theorem dX11_init_12 : decode cX11_init 12 = .ok (.putfield 10, 3) := by decide +kernel
theorem dX11_init_15 : decode cX11_init 15 = .ok (.aload_n 0, 1) := by decide +kernel
theorem dX11_init_16 : decode cX11_init 16 = .ok (.new 16, 3) := by decide +kernel
theorem dX11_init_19 : decode cX11_init 19 = .ok (.dup, 1) := by decide +kernel
theorem dX11_init_20 : decode cX11_init 20 = .ok (.invokespecial 18, 3) := by decide +kernel
theorem dX11_init_23 : decode cX11_init 23 = .ok (.putfield 19, 3) := by decide +kernel
theorem dX11_init_26 : decode cX11_init 26 = .ok (.aload_n 0, 1) := by decide +kernel
theorem dX11_init_27 : decode cX11_init 27 = .ok (.new 16, 3) := by decide +kernel
theorem dX11_init_30 : decode cX11_init 30 = .ok (.dup, 1) := by decide +kernel
theorem dX11_init_31 : decode cX11_init 31 = .ok (.invokespecial 18, 3) := by decide +kernel
theorem dX11_init_34 : decode cX11_init 34 = .ok (.putfield 23, 3) := by decide +kernel
theorem dX11_init_37 : decode cX11_init 37 = .ok (.aload_n 0, 1) := by decide +kernel
theorem dX11_init_38 : decode cX11_init 38 = .ok (.new 26, 3) := by decide +kernel
theorem dX11_init_41 : decode cX11_init 41 = .ok (.dup, 1) := by decide +kernel
theorem dX11_init_42 : decode cX11_init 42 = .ok (.invokespecial 28, 3) := by decide +kernel
theorem dX11_init_45 : decode cX11_init 45 = .ok (.putfield 29, 3) := by decide +kernel
theorem dX11_init_48 : decode cX11_init 48 = .ok (.aload_n 0, 1) := by decide +kernel
theorem dX11_init_49 : decode cX11_init 49 = .ok (.bipush 100, 2) := by decide +kernel
theorem dX11_init_51 : decode cX11_init 51 = .ok (.newarray .int, 2) := by decide +kernel
theorem dX11_init_53 : decode cX11_init 53 = .ok (.putfield 33, 3) := by decide +kernel
theorem dX11_init_56 : decode cX11_init 56 = .ok (.aload_n 0, 1) := by decide +kernel
theorem dX11_init_57 : decode cX11_init 57 = .ok (.new 37, 3) := by decide +kernel
theorem dX11_init_60 : decode cX11_init 60 = .ok (.dup, 1) := by decide +kernel
theorem dX11_init_61 : decode cX11_init 61 = .ok (.invokespecial 39, 3) := by decide +kernel
theorem dX11_init_64 : decode cX11_init 64 = .ok (.putfield 40, 3) := by decide +kernel
theorem dX11_init_67 : decode cX11_init 67 = .ok (.aload_n 0, 1) := by decide +kernel
theorem dX11_init_68 : decode cX11_init 68 = .ok (.iconst 3, 1) := by decide +kernel
theorem dX11_init_69 : decode cX11_init 69 = .ok (.anewarray 44, 3) := by decide +kernel
theorem dX11_init_72 : decode cX11_init 72 = .ok (.putfield 46, 3) := by decide +kernel
theorem dX11_init_75 : decode cX11_init 75 = .ok (.aload_n 0, 1) := by decide +kernel
theorem dX11_init_76 : decode cX11_init 76 = .ok (.iconst 3, 1) := by decide +kernel
theorem dX11_init_77 : decode cX11_init 77 = .ok (.anewarray 50, 3) := by decide +kernel
theorem dX11_init_80 : decode cX11_init 80 = .ok (.putfield 52, 3) := by decide +kernel
theorem dX11_init_83 : decode cX11_init 83 = .ok (.aload_n 0, 1) := by decide +kernel
theorem dX11_init_84 : decode cX11_init 84 = .ok (.new 50, 3) := by decide +kernel
theorem dX11_init_87 : decode cX11_init 87 = .ok (.dup, 1) := by decide +kernel
theorem dX11_init_88 : decode cX11_init 88 = .ok (.invokespecial 56, 3) := by decide +kernel
theorem dX11_init_91 : decode cX11_init 91 = .ok (.putfield 57, 3) := by decide +kernel
theorem dX11_init_94 : decode cX11_init 94 = .ok (.aload_n 0, 1) := by decide +kernel
theorem dX11_init_95 : decode cX11_init 95 = .ok (.new 61, 3) := by decide +kernel
theorem dX11_init_98 : decode cX11_init 98 = .ok (.dup, 1) := by decide +kernel
theorem dX11_init_99 : decode cX11_init 99 = .ok (.invokespecial 63, 3) := by decide +kernel
theorem dX11_init_102 : decode cX11_init 102 = .ok (.putfield 64, 3) := by decide +kernel
theorem dX11_init_105 : decode cX11_init 105 = .ok (.aload_n 0, 1) := by decide +kernel
theorem dX11_init_106 : decode cX11_init 106 = .ok (.new 68, 3) := by decide +kernel
theorem dX11_init_109 : decode cX11_init 109 = .ok (.dup, 1) := by decide +kernel
theorem dX11_init_110 : decode cX11_init 110 = .ok (.invokespecial 70, 3) := by decide +kernel
theorem dX11_init_113 : decode cX11_init 113 = .ok (.putfield 71, 3) := by decide +kernel
theorem dX11_init_116 : decode cX11_init 116 = .ok (.aload_n 0, 1) := by decide +kernel
theorem dX11_init_117 : decode cX11_init 117 = .ok (.iconst 3, 1) := by decide +kernel
theorem dX11_init_118 : decode cX11_init 118 = .ok (.anewarray 75, 3) := by decide +kernel
theorem dX11_init_121 : decode cX11_init 121 = .ok (.putfield 77, 3) := by decide +kernel
theorem dX11_init_124 : decode cX11_init 124 = .ok (.aload_n 0, 1) := by decide +kernel
theorem dX11_init_125 : decode cX11_init 125 = .ok (.bipush 124, 2) := by decide +kernel
theorem dX11_init_127 : decode cX11_init 127 = .ok (.newarray .int, 2) := by decide +kernel
theorem dX11_init_129 : decode cX11_init 129 = .ok (.putfield 81, 3) := by decide +kernel
theorem dX11_init_132 : decode cX11_init 132 = .ok (.aload_n 0, 1) := by decide +kernel
theorem dX11_init_133 : decode cX11_init 133 = .ok (.bipush 124, 2) := by decide +kernel
theorem dX11_init_135 : decode cX11_init 135 = .ok (.newarray .int, 2) := by decide +kernel
theorem dX11_init_137 : decode cX11_init 137 = .ok (.putfield 84, 3) := by decide +kernel
theorem dX11_init_140 : decode cX11_init 140 = .ok (.iconst 0, 1) := by decide +kernel
theorem dX11_init_141 : decode cX11_init 141 = .ok (.istore_n 1, 1) := by decide +kernel
theorem dX11_init_142 : decode cX11_init 142 = .ok (.iload_n 1, 1) := by decide +kernel
theorem dX11_init_143 : decode cX11_init 143 = .ok (.iconst 3, 1) := by decide +kernel
theorem dX11_init_144 : decode cX11_init 144 = .ok (.if_icmp .ge 35, 3) := by decide +kernel
theorem dX11_init_147 : decode cX11_init 147 = .ok (.aload_n 0, 1) := by decide +kernel
theorem dX11_init_148 : decode cX11_init 148 = .ok (.getfield 46, 3) := by decide +kernel
theorem dX11_init_151 : decode cX11_init 151 = .ok (.iload_n 1, 1) := by decide +kernel
theorem dX11_init_152 : decode cX11_init 152 = .ok (.new 44, 3) := by decide +kernel
theorem dX11_init_155 : decode cX11_init 155 = .ok (.dup, 1) := by decide +kernel
theorem dX11_init_156 : decode cX11_init 156 = .ok (.invokespecial 87, 3) := by decide +kernel
theorem dX11_init_159 : decode cX11_init 159 = .ok (.aastore, 1) := by decide +kernel
theorem dX11_init_160 : decode cX11_init 160 = .ok (.aload_n 0, 1) := by decide +kernel
theorem dX11_init_161 : decode cX11_init 161 = .ok (.getfield 52, 3) := by decide +kernel
theorem dX11_init_164 : decode cX11_init 164 = .ok (.iload_n 1, 1) := by decide +kernel
theorem dX11_init_165 : decode cX11_init 165 = .ok (.new 50, 3) := by decide +kernel
theorem dX11_init_168 : decode cX11_init 168 = .ok (.dup, 1) := by decide +kernel
theorem dX11_init_169 : decode cX11_init 169 = .ok (.invokespecial 56, 3) := by decide +kernel
theorem dX11_init_172 : decode cX11_init 172 = .ok (.aastore, 1) := by decide +kernel
theorem dX11_init_173 : decode cX11_init 173 = .ok (.iinc 1 1, 3) := by decide +kernel
theorem dX11_init_176 : decode cX11_init 176 = .ok (.goto (-34), 3) := by decide +kernel
theorem dX11_init_179 : decode cX11_init 179 = .ok (.iconst 0, 1) := by decide +kernel
theorem dX11_init_180 : decode cX11_init 180 = .ok (.istore_n 1, 1) := by decide +kernel
theorem dX11_init_181 : decode cX11_init 181 = .ok (.iload_n 1, 1) := by decide +kernel
theorem dX11_init_182 : decode cX11_init 182 = .ok (.iconst 2, 1) := by decide +kernel
theorem dX11_init_183 : decode cX11_init 183 = .ok (.if_icmp .gt 22, 3) := by decide +kernel
theorem dX11_init_186 : decode cX11_init 186 = .ok (.aload_n 0, 1) := by decide +kernel
theorem dX11_init_187 : decode cX11_init 187 = .ok (.getfield 77, 3) := by decide +kernel
theorem dX11_init_190 : decode cX11_init 190 = .ok (.iload_n 1, 1) := by decide +kernel
theorem dX11_init_191 : decode cX11_init 191 = .ok (.new 75, 3) := by decide +kernel
theorem dX11_init_194 : decode cX11_init 194 = .ok (.dup, 1) := by decide +kernel
theorem dX11_init_195 : decode cX11_init 195 = .ok (.invokespecial 88, 3) := by decide +kernel
theorem dX11_init_198 : decode cX11_init 198 = .ok (.aastore, 1) := by decide +kernel
theorem dX11_init_199 : decode cX11_init 199 = .ok (.iinc 1 1, 3) := by decide +kernel
theorem dX11_init_202 : decode cX11_init 202 = .ok (.goto (-21), 3) := by decide +kernel
theorem dX11_init_205 : decode cX11_init 205 = .ok (.return_, 1) := by decide +kernel
theorem dX12_init_0 : decode cX12_init 0 = .ok (.aload_n 0, 1) := by decide +kernel
theorem dX12_init_1 : decode cX12_init 1 = .ok (.invokespecial 1, 3) := by decide +kernel
theorem dX12_init_4 : decode cX12_init 4 = .ok (.aload_n 0, 1) := by decide +kernel
theorem dX12_init_5 : decode cX12_init 5 = .ok (.sipush 500, 3) := by decide +kernel
theorem dX12_init_8 : decode cX12_init 8 = .ok (.newarray .int, 2) := by decide +kernel
theorem dX12_init_10 : decode cX12_init 10 = .ok (.putfield 7, 3) := by decide +kernel
theorem dX12_init_13 : decode cX12_init 13 = .ok (.aload_n 0, 1) := by decide +kernel
theorem dX12_init_14 : decode cX12_init 14 = .ok (.bipush 8, 2) := by decide +kernel
theorem dX12_init_16 : decode cX12_init 16 = .ok (.newarray .int, 2) := by decide +kernel
theorem dX12_init_18 : decode cX12_init 18 = .ok (.putfield 13, 3) := by decide +kernel
theorem dX12_init_21 : decode cX12_init 21 = .ok (.aload_n 0, 1) := by decide +kernel
theorem dX12_init_22 : decode cX12_init 22 = .ok (.sipush 400, 3) := by decide +kernel
theorem dX12_init_25 : decode cX12_init 25 = .ok (.newarray .int, 2) := by decide +kernel
theorem dX12_init_27 : decode cX12_init 27 = .ok (.putfield 16, 3) := by decide +kernel
theorem dX12_init_30 : decode cX12_init 30 = .ok (.aload_n 0, 1) := by decide +kernel
theorem dX12_init_31 : decode cX12_init 31 = .ok (.sipush 400, 3) := by decide +kernel
theorem dX12_init_34 : decode cX12_init 34 = .ok (.newarray .int, 2) := by decide +kernel
theorem dX12_init_36 : decode cX12_init 36 = .ok (.putfield 19, 3) := by decide +kernel
theorem dX12_init_39 : decode cX12_init 39 = .ok (.aload_n 0, 1) := by decide +kernel
theorem dX12_init_40 : decode cX12_init 40 = .ok (.sipush 400, 3) := by decide +kernel
theorem dX12_init_43 : decode cX12_init 43 = .ok (.newarray .int, 2) := by decide +kernel
theorem dX12_init_45 : decode cX12_init 45 = .ok (.putfield 22, 3) := by decide +kernel
theorem dX12_init_48 : decode cX12_init 48 = .ok (.aload_n 0, 1) := by decide +kernel
theorem dX12_init_49 : decode cX12_init 49 = .ok (.sipush 400, 3) := by decide +kernel
theorem dX12_init_52 : decode cX12_init 52 = .ok (.newarray .int, 2) := by decide +kernel
theorem dX12_init_54 : decode cX12_init 54 = .ok (.putfield 25, 3) := by decide +kernel
theorem dX12_init_57 : decode cX12_init 57 = .ok (.aload_n 0, 1) := by decide +kernel
theorem dX12_init_58 : decode cX12_init 58 = .ok (.sipush 400, 3) := by decide +kernel
theorem dX12_init_61 : decode cX12_init 61 = .ok (.newarray .boolean, 2) := by decide +kernel
theorem dX12_init_63 : decode cX12_init 63 = .ok (.putfield 28, 3) := by decide +kernel
theorem dX12_init_66 : decode cX12_init 66 = .ok (.aload_n 0, 1) := by decide +kernel
theorem dX12_init_67 : decode cX12_init 67 = .ok (.sipush 800, 3) := by decide +kernel
theorem dX12_init_70 : decode cX12_init 70 = .ok (.newarray .boolean, 2) := by decide +kernel
theorem dX12_init_72 : decode cX12_init 72 = .ok (.putfield 32, 3) := by decide +kernel
theorem dX12_init_75 : decode cX12_init 75 = .ok (.aload_n 0, 1) := by decide +kernel
theorem dX12_init_76 : decode cX12_init 76 = .ok (.sipush 800, 3) := by decide +kernel
theorem dX12_init_79 : decode cX12_init 79 = .ok (.newarray .int, 2) := by decide +kernel
theorem dX12_init_81 : decode cX12_init 81 = .ok (.putfield 35, 3) := by decide +kernel
theorem dX12_init_84 : decode cX12_init 84 = .ok (.aload_n 0, 1) := by decide +kernel
theorem dX12_init_85 : decode cX12_init 85 = .ok (.bipush 77, 2) := by decide +kernel
theorem dX12_init_87 : decode cX12_init 87 = .ok (.newarray .int, 2) := by decide +kernel
theorem dX12_init_89 : decode cX12_init 89 = .ok (.dup, 1) := by decide +kernel
theorem dX12_init_90 : decode cX12_init 90 = .ok (.iconst 0, 1) := by decide +kernel
theorem dX12_init_91 : decode cX12_init 91 = .ok (.bipush 107, 2) := by decide +kernel
theorem dX12_init_93 : decode cX12_init 93 = .ok (.iastore, 1) := by decide +kernel
theorem dX12_init_94 : decode cX12_init 94 = .ok (.dup, 1) := by decide +kernel
theorem dX12_init_95 : decode cX12_init 95 = .ok (.iconst 1, 1) := by decide +kernel
theorem dX12_init_96 : decode cX12_init 96 = .ok (.bipush 101, 2) := by decide +kernel
theorem dX12_init_98 : decode cX12_init 98 = .ok (.iastore, 1) := by decide +kernel
theorem dX12_init_99 : decode cX12_init 99 = .ok (.dup, 1) := by decide +kernel
theorem dX12_init_100 : decode cX12_init 100 = .ok (.iconst 2, 1) := by decide +kernel
theorem dX12_init_101 : decode cX12_init 101 = .ok (.bipush 101, 2) := by decide +kernel
theorem dX12_init_103 : decode cX12_init 103 = .ok (.iastore, 1) := by decide +kernel
theorem dX12_init_104 : decode cX12_init 104 = .ok (.dup, 1) := by decide +kernel
theorem dX12_init_105 : decode cX12_init 105 = .ok (.iconst 3, 1) := by decide +kernel
theorem dX12_init_106 : decode cX12_init 106 = .ok (.bipush 112, 2) := by decide +kernel
theorem dX12_init_108 : decode cX12_init 108 = .ok (.iastore, 1) := by decide +kernel
theorem dX12_init_109 : decode cX12_init 109 = .ok (.dup, 1) := by decide +kernel
theorem dX12_init_110 : decode cX12_init 110 = .ok (.iconst 4, 1) := by decide +kernel
theorem dX12_init_111 : decode cX12_init 111 = .ok (.bipush 32, 2) := by decide +kernel
theorem dX12_init_113 : decode cX12_init 113 = .ok (.iastore, 1) := by decide +kernel
theorem dX12_init_114 : decode cX12_init 114 = .ok (.dup, 1) := by decide +kernel
theorem dX12_init_115 : decode cX12_init 115 = .ok (.iconst 5, 1) := by decide +kernel
theorem dX12_init_116 : decode cX12_init 116 = .ok (.bipush 108, 2) := by decide +kernel
theorem dX12_init_118 : decode cX12_init 118 = .ok (.iastore, 1) := by decide +kernel
theorem dX12_init_119 : decode cX12_init 119 = .ok (.dup, 1) := by decide +kernel
theorem dX12_init_120 : decode cX12_init 120 = .ok (.bipush 6, 2) := by decide +kernel
theorem dX12_init_122 : decode cX12_init 122 = .ok (.bipush 101, 2) := by decide +kernel
theorem dX12_init_124 : decode cX12_init 124 = .ok (.iastore, 1) := by decide +kernel
theorem dX12_init_125 : decode cX12_init 125 = .ok (.dup, 1) := by decide +kernel
theorem dX12_init_126 : decode cX12_init 126 = .ok (.bipush 7, 2) := by decide +kernel
theorem dX12_init_128 : decode cX12_init 128 = .ok (.bipush 118, 2) := by decide +kernel
theorem dX12_init_130 : decode cX12_init 130 = .ok (.iastore, 1) := by decide +kernel
theorem dX12_init_131 : decode cX12_init 131 = .ok (.dup, 1) := by decide +kernel
theorem dX12_init_132 : decode cX12_init 132 = .ok (.bipush 8, 2) := by decide +kernel
theorem dX12_init_134 : decode cX12_init 134 = .ok (.bipush 101, 2) := by decide +kernel
theorem dX12_init_136 : decode cX12_init 136 = .ok (.iastore, 1) := by decide +kernel
theorem dX12_init_137 : decode cX12_init 137 = .ok (.dup, 1) := by decide +kernel
theorem dX12_init_138 : decode cX12_init 138 = .ok (.bipush 9, 2) := by decide +kernel
theorem dX12_init_140 : decode cX12_init 140 = .ok (.bipush 108, 2) := by decide +kernel
theorem dX12_init_142 : decode cX12_init 142 = .ok (.iastore, 1) := by decide +kernel
theorem dX12_init_143 : decode cX12_init 143 = .ok (.dup, 1) := by decide +kernel
theorem dX12_init_144 : decode cX12_init 144 = .ok (.bipush 10, 2) := by decide +kernel
theorem dX12_init_146 : decode cX12_init 146 = .ok (.bipush 32, 2) := by decide +kernel
theorem dX12_init_148 : decode cX12_init 148 = .ok (.iastore, 1) := by decide +kernel
theorem dX12_init_149 : decode cX12_init 149 = .ok (.dup, 1) := by decide +kernel
theorem dX12_init_150 : decode cX12_init 150 = .ok (.bipush 11, 2) := by decide +kernel
theorem dX12_init_152 : decode cX12_init 152 = .ok (.bipush 111, 2) := by decide +kernel
theorem dX12_init_154 : decode cX12_init 154 = .ok (.iastore, 1) := by decide +kernel
theorem dX12_init_155 : decode cX12_init 155 = .ok (.dup, 1) := by decide +kernel
theorem dX12_init_156 : decode cX12_init 156 = .ok (.bipush 12, 2) := by decide +kernel
theorem dX12_init_158 : decode cX12_init 158 = .ok (.bipush 114, 2) := by decide +kernel
theorem dX12_init_160 : decode cX12_init 160 = .ok (.iastore, 1) := by decide +kernel
theorem dX12_init_161 : decode cX12_init 161 = .ok (.dup, 1) := by decide +kernel
theorem dX12_init_162 : decode cX12_init 162 = .ok (.bipush 13, 2) := by decide +kernel
theorem dX12_init_164 : decode cX12_init 164 = .ok (.bipush 32, 2) := by decide +kernel
theorem dX12_init_166 : decode cX12_init 166 = .ok (.iastore, 1) := by decide +kernel
theorem dX12_init_167 : decode cX12_init 167 = .ok (.dup, 1) := by decide +kernel
theorem dX12_init_168 : decode cX12_init 168 = .ok (.bipush 14, 2) := by decide +kernel
theorem dX12_init_170 : decode cX12_init 170 = .ok (.bipush 97, 2) := by decide +kernel
theorem dX12_init_172 : decode cX12_init 172 = .ok (.iastore, 1) := by decide +kernel
theorem dX12_init_173 : decode cX12_init 173 = .ok (.dup, 1) := by decide +kernel
theorem dX12_init_174 : decode cX12_init 174 = .ok (.bipush 15, 2) := by decide +kernel
theorem dX12_init_176 : decode cX12_init 176 = .ok (.bipush 110, 2) := by decide +kernel
theorem dX12_init_178 : decode cX12_init 178 = .ok (.iastore, 1) := by decide +kernel
theorem dX12_init_179 : decode cX12_init 179 = .ok (.dup, 1) := by decide +kernel
theorem dX12_init_180 : decode cX12_init 180 = .ok (.bipush 16, 2) := by decide +kernel
theorem dX12_init_182 : decode cX12_init 182 = .ok (.bipush 100, 2) := by decide +kernel
theorem dX12_init_184 : decode cX12_init 184 = .ok (.iastore, 1) := by decide +kernel
theorem dX12_init_185 : decode cX12_init 185 = .ok (.dup, 1) := by decide +kernel
theorem dX12_init_186 : decode cX12_init 186 = .ok (.bipush 17, 2) := by decide +kernel
theorem dX12_init_188 : decode cX12_init 188 = .ok (.bipush 32, 2) := by decide +kernel
theorem dX12_init_190 : decode cX12_init 190 = .ok (.iastore, 1) := by decide +kernel
theorem dX12_init_191 : decode cX12_init 191 = .ok (.dup, 1) := by decide +kernel
theorem dX12_init_192 : decode cX12_init 192 = .ok (.bipush 18, 2) := by decide +kernel
theorem dX12_init_194 : decode cX12_init 194 = .ok (.bipush 110, 2) := by decide +kernel
theorem dX12_init_196 : decode cX12_init 196 = .ok (.iastore, 1) := by decide +kernel
theorem dX12_init_197 : decode cX12_init 197 = .ok (.dup, 1) := by decide +kernel
theorem dX12_init_198 : decode cX12_init 198 = .ok (.bipush 19, 2) := by decide +kernel
theorem dX12_init_200 : decode cX12_init 200 = .ok (.bipush 111, 2) := by decide +kernel
theorem dX12_init_202 : decode cX12_init 202 = .ok (.iastore, 1) := by decide +kernel
theorem dX12_init_203 : decode cX12_init 203 = .ok (.dup, 1) := by decide +kernel
theorem dX12_init_204 : decode cX12_init 204 = .ok (.bipush 20, 2) := by decide +kernel
theorem dX12_init_206 : decode cX12_init 206 = .ok (.bipush 116, 2) := by decide +kernel
theorem dX12_init_208 : decode cX12_init 208 = .ok (.iastore, 1) := by decide +kernel
theorem dX12_init_209 : decode cX12_init 209 = .ok (.dup, 1) := by decide +kernel
theorem dX12_init_210 : decode cX12_init 210 = .ok (.bipush 21, 2) := by decide +kernel
theorem dX12_init_212 : decode cX12_init 212 = .ok (.bipush 32, 2) := by decide +kernel
theorem dX12_init_214 : decode cX12_init 214 = .ok (.iastore, 1) := by decide +kernel
theorem dX12_init_215 : decode cX12_init 215 = .ok (.dup, 1) := by decide +kernel
theorem dX12_init_216 : decode cX12_init 216 = .ok (.bipush 22, 2) := by decide +kernel
theorem dX12_init_218 : decode cX12_init 218 = .ok (.bipush 108, 2) := by decide +kernel
theorem dX12_init_220 : decode cX12_init 220 = .ok (.iastore, 1) := by decide +kernel
theorem dX12_init_221 : decode cX12_init 221 = .ok (.dup, 1) := by decide +kernel
theorem dX12_init_222 : decode cX12_init 222 = .ok (.bipush 23, 2) := by decide +kernel
theorem dX12_init_224 : decode cX12_init 224 = .ok (.bipush 97, 2) := by decide +kernel
theorem dX12_init_226 : decode cX12_init 226 = .ok (.iastore, 1) := by decide +kernel
theorem dX12_init_227 : decode cX12_init 227 = .ok (.dup, 1) := by decide +kernel
theorem dX12_init_228 : decode cX12_init 228 = .ok (.bipush 24, 2) := by decide +kernel
theorem dX12_init_230 : decode cX12_init 230 = .ok (.bipush 115, 2) := by decide +kernel
theorem dX12_init_232 : decode cX12_init 232 = .ok (.iastore, 1) := by decide +kernel
theorem dX12_init_233 : decode cX12_init 233 = .ok (.dup, 1) := by decide +kernel
theorem dX12_init_234 : decode cX12_init 234 = .ok (.bipush 25, 2) := by decide +kernel
theorem dX12_init_236 : decode cX12_init 236 = .ok (.bipush 116, 2) := by decide +kernel
theorem dX12_init_238 : decode cX12_init 238 = .ok (.iastore, 1) := by decide +kernel
theorem dX12_init_239 : decode cX12_init 239 = .ok (.dup, 1) := by decide +kernel
theorem dX12_init_240 : decode cX12_init 240 = .ok (.bipush 26, 2) := by decide +kernel
theorem dX12_init_242 : decode cX12_init 242 = .ok (.bipush 32, 2) := by decide +kernel
theorem dX12_init_244 : decode cX12_init 244 = .ok (.iastore, 1) := by decide +kernel
theorem dX12_init_245 : decode cX12_init 245 = .ok (.dup, 1) := by decide +kernel
theorem dX12_init_246 : decode cX12_init 246 = .ok (.bipush 27, 2) := by decide +kernel
theorem dX12_init_248 : decode cX12_init 248 = .ok (.bipush 102, 2) := by decide +kernel
theorem dX12_init_250 : decode cX12_init 250 = .ok (.iastore, 1) := by decide +kernel
theorem dX12_init_251 : decode cX12_init 251 = .ok (.dup, 1) := by decide +kernel
theorem dX12_init_252 : decode cX12_init 252 = .ok (.bipush 28, 2) := by decide +kernel
theorem dX12_init_254 : decode cX12_init 254 = .ok (.bipush 105, 2) := by decide +kernel
theorem dX12_init_256 : decode cX12_init 256 = .ok (.iastore, 1) := by decide +kernel
theorem dX12_init_257 : decode cX12_init 257 = .ok (.dup, 1) := by decide +kernel
theorem dX12_init_258 : decode cX12_init 258 = .ok (.bipush 29, 2) := by decide +kernel
theorem dX12_init_260 : decode cX12_init 260 = .ok (.bipush 114, 2) := by decide +kernel
theorem dX12_init_262 : decode cX12_init 262 = .ok (.iastore, 1) := by decide +kernel
theorem dX12_init_263 : decode cX12_init 263 = .ok (.dup, 1) := by decide +kernel
theorem dX12_init_264 : decode cX12_init 264 = .ok (.bipush 30, 2) := by decide +kernel
theorem dX12_init_266 : decode cX12_init 266 = .ok (.bipush 115, 2) := by decide +kernel
theorem dX12_init_268 : decode cX12_init 268 = .ok (.iastore, 1) := by decide +kernel
theorem dX12_init_269 : decode cX12_init 269 = .ok (.dup, 1) := by decide +kernel
theorem dX12_init_270 : decode cX12_init 270 = .ok (.bipush 31, 2) := by decide +kernel
theorem dX12_init_272 : decode cX12_init 272 = .ok (.bipush 116, 2) := by decide +kernel
theorem dX12_init_274 : decode cX12_init 274 = .ok (.iastore, 1) := by decide +kernel
theorem dX12_init_275 : decode cX12_init 275 = .ok (.dup, 1) := by decide +kernel
theorem dX12_init_276 : decode cX12_init 276 = .ok (.bipush 32, 2) := by decide +kernel
theorem dX12_init_278 : decode cX12_init 278 = .ok (.bipush 32, 2) := by decide +kernel
theorem dX12_init_280 : decode cX12_init 280 = .ok (.iastore, 1) := by decide +kernel
theorem dX12_init_281 : decode cX12_init 281 = .ok (.dup, 1) := by decide +kernel
theorem dX12_init_282 : decode cX12_init 282 = .ok (.bipush 33, 2) := by decide +kernel
theorem dX12_init_284 : decode cX12_init 284 = .ok (.bipush 115, 2) := by decide +kernel
theorem dX12_init_286 : decode cX12_init 286 = .ok (.iastore, 1) := by decide +kernel
theorem dX12_init_287 : decode cX12_init 287 = .ok (.dup, 1) := by decide +kernel
theorem dX12_init_288 : decode cX12_init 288 = .ok (.bipush 34, 2) := by decide +kernel
theorem dX12_init_290 : decode cX12_init 290 = .ok (.bipush 117, 2) := by decide +kernel
theorem dX12_init_292 : decode cX12_init 292 = .ok (.iastore, 1) := by decide +kernel
theorem dX12_init_293 : decode cX12_init 293 = .ok (.dup, 1) := by decide +kernel
theorem dX12_init_294 : decode cX12_init 294 = .ok (.bipush 35, 2) := by decide +kernel
theorem dX12_init_296 : decode cX12_init 296 = .ok (.bipush 109, 2) := by decide +kernel
theorem dX12_init_298 : decode cX12_init 298 = .ok (.iastore, 1) := by decide +kernel
theorem dX12_init_299 : decode cX12_init 299 = .ok (.dup, 1) := by decide +kernel
theorem dX12_init_300 : decode cX12_init 300 = .ok (.bipush 36, 2) := by decide +kernel
theorem dX12_init_302 : decode cX12_init 302 = .ok (.bipush 32, 2) := by decide +kernel
theorem dX12_init_304 : decode cX12_init 304 = .ok (.iastore, 1) := by decide +kernel
theorem dX12_init_305 : decode cX12_init 305 = .ok (.dup, 1) := by decide +kernel
theorem dX12_init_306 : decode cX12_init 306 = .ok (.bipush 37, 2) := by decide +kernel
theorem dX12_init_308 : decode cX12_init 308 = .ok (.bipush 109, 2) := by decide +kernel
theorem dX12_init_310 : decode cX12_init 310 = .ok (.iastore, 1) := by decide +kernel
theorem dX12_init_311 : decode cX12_init 311 = .ok (.dup, 1) := by decide +kernel
theorem dX12_init_312 : decode cX12_init 312 = .ok (.bipush 38, 2) := by decide +kernel
theorem dX12_init_314 : decode cX12_init 314 = .ok (.bipush 97, 2) := by decide +kernel
theorem dX12_init_316 : decode cX12_init 316 = .ok (.iastore, 1) := by decide +kernel
theorem dX12_init_317 : decode cX12_init 317 = .ok (.dup, 1) := by decide +kernel
theorem dX12_init_318 : decode cX12_init 318 = .ok (.bipush 39, 2) := by decide +kernel
theorem dX12_init_320 : decode cX12_init 320 = .ok (.bipush 120, 2) := by decide +kernel
theorem dX12_init_322 : decode cX12_init 322 = .ok (.iastore, 1) := by decide +kernel
theorem dX12_init_323 : decode cX12_init 323 = .ok (.dup, 1) := by decide +kernel
theorem dX12_init_324 : decode cX12_init 324 = .ok (.bipush 40, 2) := by decide +kernel
theorem dX12_init_326 : decode cX12_init 326 = .ok (.bipush 32, 2) := by decide +kernel
theorem dX12_init_328 : decode cX12_init 328 = .ok (.iastore, 1) := by decide +kernel
theorem dX12_init_329 : decode cX12_init 329 = .ok (.dup, 1) := by decide +kernel
theorem dX12_init_330 : decode cX12_init 330 = .ok (.bipush 41, 2) := by decide +kernel
theorem dX12_init_332 : decode cX12_init 332 = .ok (.bipush 109, 2) := by decide +kernel
theorem dX12_init_334 : decode cX12_init 334 = .ok (.iastore, 1) := by decide +kernel
theorem dX12_init_335 : decode cX12_init 335 = .ok (.dup, 1) := by decide +kernel
theorem dX12_init_336 : decode cX12_init 336 = .ok (.bipush 42, 2) := by decide +kernel
theorem dX12_init_338 : decode cX12_init 338 = .ok (.bipush 105, 2) := by decide +kernel
theorem dX12_init_340 : decode cX12_init 340 = .ok (.iastore, 1) := by decide +kernel
theorem dX12_init_341 : decode cX12_init 341 = .ok (.dup, 1) := by decide +kernel
theorem dX12_init_342 : decode cX12_init 342 = .ok (.bipush 43, 2) := by decide +kernel
theorem dX12_init_344 : decode cX12_init 344 = .ok (.bipush 110, 2) := by decide +kernel
theorem dX12_init_346 : decode cX12_init 346 = .ok (.iastore, 1) := by decide +kernel
theorem dX12_init_347 : decode cX12_init 347 = .ok (.dup, 1) := by decide +kernel
theorem dX12_init_348 : decode cX12_init 348 = .ok (.bipush 44, 2) := by decide +kernel
theorem dX12_init_350 : decode cX12_init 350 = .ok (.bipush 32, 2) := by decide +kernel
theorem dX12_init_352 : decode cX12_init 352 = .ok (.iastore, 1) := by decide +kernel
theorem dX12_init_353 : decode cX12_init 353 = .ok (.dup, 1) := by decide +kernel
theorem dX12_init_354 : decode cX12_init 354 = .ok (.bipush 45, 2) := by decide +kernel
theorem dX12_init_356 : decode cX12_init 356 = .ok (.bipush 99, 2) := by decide +kernel
theorem dX12_init_358 : decode cX12_init 358 = .ok (.iastore, 1) := by decide +kernel
theorem dX12_init_359 : decode cX12_init 359 = .ok (.dup, 1) := by decide +kernel
theorem dX12_init_360 : decode cX12_init 360 = .ok (.bipush 46, 2) := by decide +kernel
theorem dX12_init_362 : decode cX12_init 362 = .ok (.bipush 111, 2) := by decide +kernel
theorem dX12_init_364 : decode cX12_init 364 = .ok (.iastore, 1) := by decide +kernel
theorem dX12_init_365 : decode cX12_init 365 = .ok (.dup, 1) := by decide +kernel
theorem dX12_init_366 : decode cX12_init 366 = .ok (.bipush 47, 2) := by decide +kernel
theorem dX12_init_368 : decode cX12_init 368 = .ok (.bipush 117, 2) := by decide +kernel
theorem dX12_init_370 : decode cX12_init 370 = .ok (.iastore, 1) := by decide +kernel
theorem dX12_init_371 : decode cX12_init 371 = .ok (.dup, 1) := by decide +kernel
theorem dX12_init_372 : decode cX12_init 372 = .ok (.bipush 48, 2) := by decide +kernel
theorem dX12_init_374 : decode cX12_init 374 = .ok (.bipush 110, 2) := by decide +kernel
theorem dX12_init_376 : decode cX12_init 376 = .ok (.iastore, 1) := by decide +kernel
theorem dX12_init_377 : decode cX12_init 377 = .ok (.dup, 1) := by decide +kernel
theorem dX12_init_378 : decode cX12_init 378 = .ok (.bipush 49, 2) := by decide +kernel
theorem dX12_init_380 : decode cX12_init 380 = .ok (.bipush 116, 2) := by decide +kernel
theorem dX12_init_382 : decode cX12_init 382 = .ok (.iastore, 1) := by decide +kernel
theorem dX12_init_383 : decode cX12_init 383 = .ok (.dup, 1) := by decide +kernel
theorem dX12_init_384 : decode cX12_init 384 = .ok (.bipush 50, 2) := by decide +kernel
theorem dX12_init_386 : decode cX12_init 386 = .ok (.bipush 32, 2) := by decide +kernel
theorem dX12_init_388 : decode cX12_init 388 = .ok (.iastore, 1) := by decide +kernel
theorem dX12_init_389 : decode cX12_init 389 = .ok (.dup, 1) := by decide +kernel
theorem dX12_init_390 : decode cX12_init 390 = .ok (.bipush 51, 2) := by decide +kernel
theorem dX12_init_392 : decode cX12_init 392 = .ok (.bipush 103, 2) := by decide +kernel
theorem dX12_init_394 : decode cX12_init 394 = .ok (.iastore, 1) := by decide +kernel
theorem dX12_init_395 : decode cX12_init 395 = .ok (.dup, 1) := by decide +kernel
theorem dX12_init_396 : decode cX12_init 396 = .ok (.bipush 52, 2) := by decide +kernel
theorem dX12_init_398 : decode cX12_init 398 = .ok (.bipush 97, 2) := by decide +kernel
theorem dX12_init_400 : decode cX12_init 400 = .ok (.iastore, 1) := by decide +kernel
theorem dX12_init_401 : decode cX12_init 401 = .ok (.dup, 1) := by decide +kernel
theorem dX12_init_402 : decode cX12_init 402 = .ok (.bipush 53, 2) := by decide +kernel
theorem dX12_init_404 : decode cX12_init 404 = .ok (.bipush 112, 2) := by decide +kernel
theorem dX12_init_406 : decode cX12_init 406 = .ok (.iastore, 1) := by decide +kernel
theorem dX12_init_407 : decode cX12_init 407 = .ok (.dup, 1) := by decide +kernel
theorem dX12_init_408 : decode cX12_init 408 = .ok (.bipush 54, 2) := by decide +kernel
theorem dX12_init_410 : decode cX12_init 410 = .ok (.bipush 115, 2) := by decide +kernel
theorem dX12_init_412 : decode cX12_init 412 = .ok (.iastore, 1) := by decide +kernel
theorem dX12_init_413 : decode cX12_init 413 = .ok (.dup, 1) := by decide +kernel
theorem dX12_init_414 : decode cX12_init 414 = .ok (.bipush 55, 2) := by decide +kernel
theorem dX12_init_416 : decode cX12_init 416 = .ok (.bipush 32, 2) := by decide +kernel
theorem dX12_init_418 : decode cX12_init 418 = .ok (.iastore, 1) := by decide +kernel
theorem dX12_init_419 : decode cX12_init 419 = .ok (.dup, 1) := by decide +kernel
theorem dX12_init_420 : decode cX12_init 420 = .ok (.bipush 56, 2) := by decide +kernel
theorem dX12_init_422 : decode cX12_init 422 = .ok (.bipush 116, 2) := by decide +kernel
theorem dX12_init_424 : decode cX12_init 424 = .ok (.iastore, 1) := by decide +kernel
theorem dX12_init_425 : decode cX12_init 425 = .ok (.dup, 1) := by decide +kernel
theorem dX12_init_426 : decode cX12_init 426 = .ok (.bipush 57, 2) := by decide +kernel
theorem dX12_init_428 : decode cX12_init 428 = .ok (.bipush 114, 2) := by decide +kernel
theorem dX12_init_430 : decode cX12_init 430 = .ok (.iastore, 1) := by decide +kernel
theorem dX12_init_431 : decode cX12_init 431 = .ok (.dup, 1) := by decide +kernel
theorem dX12_init_432 : decode cX12_init 432 = .ok (.bipush 58, 2) := by decide +kernel
theorem dX12_init_434 : decode cX12_init 434 = .ok (.bipush 101, 2) := by decide +kernel
theorem dX12_init_436 : decode cX12_init 436 = .ok (.iastore, 1) := by decide +kernel
theorem dX12_init_437 : decode cX12_init 437 = .ok (.dup, 1) := by decide +kernel
theorem dX12_init_438 : decode cX12_init 438 = .ok (.bipush 59, 2) := by decide +kernel
theorem dX12_init_440 : decode cX12_init 440 = .ok (.bipush 109, 2) := by decide +kernel
theorem dX12_init_442 : decode cX12_init 442 = .ok (.iastore, 1) := by decide +kernel
theorem dX12_init_443 : decode cX12_init 443 = .ok (.dup, 1) := by decide +kernel
theorem dX12_init_444 : decode cX12_init 444 = .ok (.bipush 60, 2) := by decide +kernel
theorem dX12_init_446 : decode cX12_init 446 = .ok (.bipush 111, 2) := by decide +kernel
theorem dX12_init_448 : decode cX12_init 448 = .ok (.iastore, 1) := by decide +kernel
theorem dX12_init_449 : decode cX12_init 449 = .ok (.dup, 1) := by decide +kernel
theorem dX12_init_450 : decode cX12_init 450 = .ok (.bipush 61, 2) := by decide +kernel
theorem dX12_init_452 : decode cX12_init 452 = .ok (.bipush 114, 2) := by decide +kernel
theorem dX12_init_454 : decode cX12_init 454 = .ok (.iastore, 1) := by decide +kernel
theorem dX12_init_455 : decode cX12_init 455 = .ok (.dup, 1) := by decide +kernel
theorem dX12_init_456 : decode cX12_init 456 = .ok (.bipush 62, 2) := by decide +kernel
theorem dX12_init_458 : decode cX12_init 458 = .ok (.bipush 32, 2) := by decide +kernel
theorem dX12_init_460 : decode cX12_init 460 = .ok (.iastore, 1) := by decide +kernel
theorem dX12_init_461 : decode cX12_init 461 = .ok (.dup, 1) := by decide +kernel
theorem dX12_init_462 : decode cX12_init 462 = .ok (.bipush 63, 2) := by decide +kernel
theorem dX12_init_464 : decode cX12_init 464 = .ok (.bipush 116, 2) := by decide +kernel
theorem dX12_init_466 : decode cX12_init 466 = .ok (.iastore, 1) := by decide +kernel
theorem dX12_init_467 : decode cX12_init 467 = .ok (.dup, 1) := by decide +kernel
theorem dX12_init_468 : decode cX12_init 468 = .ok (.bipush 64, 2) := by decide +kernel
theorem dX12_init_470 : decode cX12_init 470 = .ok (.bipush 105, 2) := by decide +kernel
theorem dX12_init_472 : decode cX12_init 472 = .ok (.iastore, 1) := by decide +kernel
theorem dX12_init_473 : decode cX12_init 473 = .ok (.dup, 1) := by decide +kernel
theorem dX12_init_474 : decode cX12_init 474 = .ok (.bipush 65, 2) := by decide +kernel
theorem dX12_init_476 : decode cX12_init 476 = .ok (.bipush 108, 2) := by decide +kernel
theorem dX12_init_478 : decode cX12_init 478 = .ok (.iastore, 1) := by decide +kernel
theorem dX12_init_479 : decode cX12_init 479 = .ok (.dup, 1) := by decide +kernel
theorem dX12_init_480 : decode cX12_init 480 = .ok (.bipush 66, 2) := by decide +kernel
theorem dX12_init_482 : decode cX12_init 482 = .ok (.bipush 116, 2) := by decide +kernel
theorem dX12_init_484 : decode cX12_init 484 = .ok (.iastore, 1) := by decide +kernel
theorem dX12_init_485 : decode cX12_init 485 = .ok (.dup, 1) := by decide +kernel
theorem dX12_init_486 : decode cX12_init 486 = .ok (.bipush 67, 2) := by decide +kernel
theorem dX12_init_488 : decode cX12_init 488 = .ok (.bipush 32, 2) := by decide +kernel
theorem dX12_init_490 : decode cX12_init 490 = .ok (.iastore, 1) := by decide +kernel
theorem dX12_init_491 : decode cX12_init 491 = .ok (.dup, 1) := by decide +kernel
theorem dX12_init_492 : decode cX12_init 492 = .ok (.bipush 68, 2) := by decide +kernel
theorem dX12_init_494 : decode cX12_init 494 = .ok (.bipush 103, 2) := by decide +kernel
theorem dX12_init_496 : decode cX12_init 496 = .ok (.iastore, 1) := by decide +kernel
theorem dX12_init_497 : decode cX12_init 497 = .ok (.dup, 1) := by decide +kernel
theorem dX12_init_498 : decode cX12_init 498 = .ok (.bipush 69, 2) := by decide +kernel
theorem dX12_init_500 : decode cX12_init 500 = .ok (.bipush 97, 2) := by decide +kernel
theorem dX12_init_502 : decode cX12_init 502 = .ok (.iastore, 1) := by decide +kernel
theorem dX12_init_503 : decode cX12_init 503 = .ok (.dup, 1) := by decide +kernel
theorem dX12_init_504 : decode cX12_init 504 = .ok (.bipush 70, 2) := by decide +kernel
theorem dX12_init_506 : decode cX12_init 506 = .ok (.bipush 115, 2) := by decide +kernel
theorem dX12_init_508 : decode cX12_init 508 = .ok (.iastore, 1) := by decide +kernel
theorem dX12_init_509 : decode cX12_init 509 = .ok (.dup, 1) := by decide +kernel
theorem dX12_init_510 : decode cX12_init 510 = .ok (.bipush 71, 2) := by decide +kernel
theorem dX12_init_512 : decode cX12_init 512 = .ok (.bipush 32, 2) := by decide +kernel
theorem dX12_init_514 : decode cX12_init 514 = .ok (.iastore, 1) := by decide +kernel
theorem dX12_init_515 : decode cX12_init 515 = .ok (.dup, 1) := by decide +kernel
theorem dX12_init_516 : decode cX12_init 516 = .ok (.bipush 72, 2) := by decide +kernel
theorem dX12_init_518 : decode cX12_init 518 = .ok (.bipush 104, 2) := by decide +kernel
theorem dX12_init_520 : decode cX12_init 520 = .ok (.iastore, 1) := by decide +kernel
theorem dX12_init_521 : decode cX12_init 521 = .ok (.dup, 1) := by decide +kernel
theorem dX12_init_522 : decode cX12_init 522 = .ok (.bipush 73, 2) := by decide +kernel
theorem dX12_init_524 : decode cX12_init 524 = .ok (.bipush 101, 2) := by decide +kernel
theorem dX12_init_526 : decode cX12_init 526 = .ok (.iastore, 1) := by decide +kernel
theorem dX12_init_527 : decode cX12_init 527 = .ok (.dup, 1) := by decide +kernel
theorem dX12_init_528 : decode cX12_init 528 = .ok (.bipush 74, 2) := by decide +kernel
theorem dX12_init_530 : decode cX12_init 530 = .ok (.bipush 97, 2) := by decide +kernel
theorem dX12_init_532 : decode cX12_init 532 = .ok (.iastore, 1) := by decide +kernel
theorem dX12_init_533 : decode cX12_init 533 = .ok (.dup, 1) := by decide +kernel
theorem dX12_init_534 : decode cX12_init 534 = .ok (.bipush 75, 2) := by decide +kernel
theorem dX12_init_536 : decode cX12_init 536 = .ok (.bipush 116, 2) := by decide +kernel
theorem dX12_init_538 : decode cX12_init 538 = .ok (.iastore, 1) := by decide +kernel
theorem dX12_init_539 : decode cX12_init 539 = .ok (.dup, 1) := by decide +kernel
theorem dX12_init_540 : decode cX12_init 540 = .ok (.bipush 76, 2) := by decide +kernel
theorem dX12_init_542 : decode cX12_init 542 = .ok (.bipush 32, 2) := by decide +kernel
theorem dX12_init_544 : decode cX12_init 544 = .ok (.iastore, 1) := by decide +kernel
theorem dX12_init_545 : decode cX12_init 545 = .ok (.putfield 38, 3) := by decide +kernel
theorem dX12_init_548 : decode cX12_init 548 = .ok (.aload_n 0, 1) := by decide +kernel
theorem dX12_init_549 : decode cX12_init 549 = .ok (.iconst (-1), 1) := by decide +kernel
theorem dX12_init_550 : decode cX12_init 550 = .ok (.putfield 41, 3) := by decide +kernel
theorem dX12_init_553 : decode cX12_init 553 = .ok (.aload_n 0, 1) := by decide +kernel
theorem dX12_init_554 : decode cX12_init 554 = .ok (.sipush 128, 3) := by decide +kernel
theorem dX12_init_557 : decode cX12_init 557 = .ok (.newarray .int, 2) := by decide +kernel
theorem dX12_init_559 : decode cX12_init 559 = .ok (.putfield 45, 3) := by decide +kernel
theorem dX12_init_562 : decode cX12_init 562 = .ok (.aload_n 0, 1) := by decide +kernel
theorem dX12_init_563 : decode cX12_init 563 = .ok (.sipush 128, 3) := by decide +kernel
theorem dX12_init_566 : decode cX12_init 566 = .ok (.newarray .int, 2) := by decide +kernel
theorem dX12_init_568 : decode cX12_init 568 = .ok (.putfield 48, 3) := by decide +kernel
theorem dX12_init_571 : decode cX12_init 571 = .ok (.aload_n 0, 1) := by decide +kernel
theorem dX12_init_572 : decode cX12_init 572 = .ok (.sipush 128, 3) := by decide +kernel
theorem dX12_init_575 : decode cX12_init 575 = .ok (.newarray .int, 2) := by decide +kernel
theorem dX12_init_577 : decode cX12_init 577 = .ok (.putfield 51, 3) := by decide +kernel
theorem dX12_init_580 : decode cX12_init 580 = .ok (.aload_n 0, 1) := by decide +kernel
theorem dX12_init_581 : decode cX12_init 581 = .ok (.sipush 128, 3) := by decide +kernel
theorem dX12_init_584 : decode cX12_init 584 = .ok (.newarray .int, 2) := by decide +kernel
theorem dX12_init_586 : decode cX12_init 586 = .ok (.putfield 54, 3) := by decide +kernel
theorem dX12_init_589 : decode cX12_init 589 = .ok (.aload_n 0, 1) := by decide +kernel
theorem dX12_init_590 : decode cX12_init 590 = .ok (.sipush 128, 3) := by decide +kernel
theorem dX12_init_593 : decode cX12_init 593 = .ok (.newarray .int, 2) := by decide +kernel
theorem dX12_init_595 : decode cX12_init 595 = .ok (.putfield 57, 3) := by decide +kernel
theorem dX12_init_598 : decode cX12_init 598 = .ok (.aload_n 0, 1) := by decide +kernel
theorem dX12_init_599 : decode cX12_init 599 = .ok (.sipush 128, 3) := by decide +kernel
theorem dX12_init_602 : decode cX12_init 602 = .ok (.newarray .int, 2) := by decide +kernel
theorem dX12_init_604 : decode cX12_init 604 = .ok (.putfield 60, 3) := by decide +kernel
theorem dX12_init_607 : decode cX12_init 607 = .ok (.aload_n 0, 1) := by decide +kernel
theorem dX12_init_608 : decode cX12_init 608 = .ok (.sipush 128, 3) := by decide +kernel
theorem dX12_init_611 : decode cX12_init 611 = .ok (.newarray .int, 2) := by decide +kernel
theorem dX12_init_613 : decode cX12_init 613 = .ok (.putfield 63, 3) := by decide +kernel
theorem dX12_init_616 : decode cX12_init 616 = .ok (.aload_n 0, 1) := by decide +kernel
theorem dX12_init_617 : decode cX12_init 617 = .ok (.bipush 24, 2) := by decide +kernel
theorem dX12_init_619 : decode cX12_init 619 = .ok (.newarray .int, 2) := by decide +kernel
theorem dX12_init_621 : decode cX12_init 621 = .ok (.putfield 66, 3) := by decide +kernel
theorem dX12_init_624 : decode cX12_init 624 = .ok (.aload_n 0, 1) := by decide +kernel
theorem dX12_init_625 : decode cX12_init 625 = .ok (.bipush 24, 2) := by decide +kernel
theorem dX12_init_627 : decode cX12_init 627 = .ok (.newarray .int, 2) := by decide +kernel
theorem dX12_init_629 : decode cX12_init 629 = .ok (.putfield 69, 3) := by decide +kernel
theorem dX12_init_632 : decode cX12_init 632 = .ok (.aload_n 0, 1) := by decide +kernel
theorem dX12_init_633 : decode cX12_init 633 = .ok (.bipush 24, 2) := by decide +kernel
theorem dX12_init_635 : decode cX12_init 635 = .ok (.newarray .int, 2) := by decide +kernel
theorem dX12_init_637 : decode cX12_init 637 = .ok (.putfield 72, 3) := by decide +kernel
theorem dX12_init_640 : decode cX12_init 640 = .ok (.aload_n 0, 1) := by decide +kernel
theorem dX12_init_641 : decode cX12_init 641 = .ok (.bipush 100, 2) := by decide +kernel
theorem dX12_init_643 : decode cX12_init 643 = .ok (.newarray .int, 2) := by decide +kernel
theorem dX12_init_645 : decode cX12_init 645 = .ok (.putfield 75, 3) := by decide +kernel
theorem dX12_init_648 : decode cX12_init 648 = .ok (.aload_n 0, 1) := by decide +kernel
theorem dX12_init_649 : decode cX12_init 649 = .ok (.bipush 100, 2) := by decide +kernel
theorem dX12_init_651 : decode cX12_init 651 = .ok (.newarray .int, 2) := by decide +kernel
theorem dX12_init_653 : decode cX12_init 653 = .ok (.putfield 78, 3) := by decide +kernel
theorem dX12_init_656 : decode cX12_init 656 = .ok (.aload_n 0, 1) := by decide +kernel
theorem dX12_init_657 : decode cX12_init 657 = .ok (.bipush 100, 2) := by decide +kernel
theorem dX12_init_659 : decode cX12_init 659 = .ok (.newarray .int, 2) := by decide +kernel
theorem dX12_init_661 : decode cX12_init 661 = .ok (.putfield 81, 3) := by decide +kernel
theorem dX12_init_664 : decode cX12_init 664 = .ok (.aload_n 0, 1) := by decide +kernel
theorem dX12_init_665 : decode cX12_init 665 = .ok (.bipush 8, 2) := by decide +kernel
theorem dX12_init_667 : decode cX12_init 667 = .ok (.newarray .boolean, 2) := by decide +kernel
theorem dX12_init_669 : decode cX12_init 669 = .ok (.putfield 84, 3) := by decide +kernel
theorem dX12_init_672 : decode cX12_init 672 = .ok (.aload_n 0, 1) := by decide +kernel
theorem dX12_init_673 : decode cX12_init 673 = .ok (.bipush 64, 2) := by decide +kernel
theorem dX12_init_675 : decode cX12_init 675 = .ok (.newarray .long, 2) := by decide +kernel
theorem dX12_init_677 : decode cX12_init 677 = .ok (.putfield 87, 3) := by decide +kernel
theorem dX12_init_680 : decode cX12_init 680 = .ok (.aload_n 0, 1) := by decide +kernel
theorem dX12_init_681 : decode cX12_init 681 = .ok (.iconst 4, 1) := by decide +kernel
theorem dX12_init_682 : decode cX12_init 682 = .ok (.putfield 91, 3) := by decide +kernel
theorem dX12_init_685 : decode cX12_init 685 = .ok (.aload_n 0, 1) := by decide +kernel
theorem dX12_init_686 : decode cX12_init 686 = .ok (.iconst 4, 1) := by decide +kernel
theorem dX12_init_687 : decode cX12_init 687 = .ok (.putfield 94, 3) := by decide +kernel
theorem dX12_init_690 : decode cX12_init 690 = .ok (.aload_n 0, 1) := by decide +kernel
theorem dX12_init_691 : decode cX12_init 691 = .ok (.bipush 64, 2) := by decide +kernel
theorem dX12_init_693 : decode cX12_init 693 = .ok (.newarray .int, 2) := by decide +kernel
theorem dX12_init_695 : decode cX12_init 695 = .ok (.putfield 97, 3) := by decide +kernel
theorem dX12_init_698 : decode cX12_init 698 = .ok (.aload_n 0, 1) := by decide +kernel
theorem dX12_init_699 : decode cX12_init 699 = .ok (.bipush 64, 2) := by decide +kernel
theorem dX12_init_701 : decode cX12_init 701 = .ok (.newarray .int, 2) := by decide +kernel
theorem dX12_init_703 : decode cX12_init 703 = .ok (.putfield 100, 3) := by decide +kernel
theorem dX12_init_706 : decode cX12_init 706 = .ok (.aload_n 0, 1) := by decide +kernel
theorem dX12_init_707 : decode cX12_init 707 = .ok (.bipush 64, 2) := by decide +kernel
theorem dX12_init_709 : decode cX12_init 709 = .ok (.newarray .boolean, 2) := by decide +kernel
theorem dX12_init_711 : decode cX12_init 711 = .ok (.putfield 103, 3) := by decide +kernel
theorem dX12_init_714 : decode cX12_init 714 = .ok (.aload_n 0, 1) := by decide +kernel
theorem dX12_init_715 : decode cX12_init 715 = .ok (.bipush 64, 2) := by decide +kernel
theorem dX12_init_717 : decode cX12_init 717 = .ok (.newarray .boolean, 2) := by decide +kernel
theorem dX12_init_719 : decode cX12_init 719 = .ok (.putfield 106, 3) := by decide +kernel
theorem dX12_init_722 : decode cX12_init 722 = .ok (.aload_n 0, 1) := by decide +kernel
theorem dX12_init_723 : decode cX12_init 723 = .ok (.iconst 3, 1) := by decide +kernel
theorem dX12_init_724 : decode cX12_init 724 = .ok (.newarray .int, 2) := by decide +kernel
theorem dX12_init_726 : decode cX12_init 726 = .ok (.putfield 109, 3) := by decide +kernel
theorem dX12_init_729 : decode cX12_init 729 = .ok (.aload_n 0, 1) := by decide +kernel
theorem dX12_init_730 : decode cX12_init 730 = .ok (.iconst 3, 1) := by decide +kernel
theorem dX12_init_731 : decode cX12_init 731 = .ok (.newarray .int, 2) := by decide +kernel
theorem dX12_init_733 : decode cX12_init 733 = .ok (.putfield 112, 3) := by decide +kernel
theorem dX12_init_736 : decode cX12_init 736 = .ok (.aload_n 0, 1) := by decide +kernel
theorem dX12_init_737 : decode cX12_init 737 = .ok (.iconst 3, 1) := by decide +kernel
theorem dX12_init_738 : decode cX12_init 738 = .ok (.newarray .int, 2) := by decide +kernel
theorem dX12_init_740 : decode cX12_init 740 = .ok (.putfield 115, 3) := by decide +kernel
theorem dX12_init_743 : decode cX12_init 743 = .ok (.aload_n 0, 1) := by decide +kernel
theorem dX12_init_744 : decode cX12_init 744 = .ok (.iconst 3, 1) := by decide +kernel
theorem dX12_init_745 : decode cX12_init 745 = .ok (.newarray .int, 2) := by decide +kernel
theorem dX12_init_747 : decode cX12_init 747 = .ok (.putfield 118, 3) := by decide +kernel
theorem dX12_init_750 : decode cX12_init 750 = .ok (.aload_n 0, 1) := by decide +kernel
theorem dX12_init_751 : decode cX12_init 751 = .ok (.iconst 3, 1) := by decide +kernel
theorem dX12_init_752 : decode cX12_init 752 = .ok (.newarray .int, 2) := by decide +kernel
theorem dX12_init_754 : decode cX12_init 754 = .ok (.putfield 121, 3) := by decide +kernel
theorem dX12_init_757 : decode cX12_init 757 = .ok (.aload_n 0, 1) := by decide +kernel
theorem dX12_init_758 : decode cX12_init 758 = .ok (.sipush 832, 3) := by decide +kernel
theorem dX12_init_761 : decode cX12_init 761 = .ok (.newarray .int, 2) := by decide +kernel
theorem dX12_init_763 : decode cX12_init 763 = .ok (.putfield 124, 3) := by decide +kernel
theorem dX12_init_766 : decode cX12_init 766 = .ok (.aload_n 0, 1) := by decide +kernel
theorem dX12_init_767 : decode cX12_init 767 = .ok (.sipush 832, 3) := by decide +kernel
theorem dX12_init_770 : decode cX12_init 770 = .ok (.newarray .int, 2) := by decide +kernel
theorem dX12_init_772 : decode cX12_init 772 = .ok (.putfield 127, 3) := by decide +kernel
theorem dX12_init_775 : decode cX12_init 775 = .ok (.aload_n 0, 1) := by decide +kernel
theorem dX12_init_776 : decode cX12_init 776 = .ok (.bipush 64, 2) := by decide +kernel
theorem dX12_init_778 : decode cX12_init 778 = .ok (.newarray .int, 2) := by decide +kernel
theorem dX12_init_780 : decode cX12_init 780 = .ok (.putfield 130, 3) := by decide +kernel
theorem dX12_init_783 : decode cX12_init 783 = .ok (.aload_n 0, 1) := by decide +kernel
theorem dX12_init_784 : decode cX12_init 784 = .ok (.bipush 64, 2) := by decide +kernel
theorem dX12_init_786 : decode cX12_init 786 = .ok (.newarray .int, 2) := by decide +kernel
theorem dX12_init_788 : decode cX12_init 788 = .ok (.putfield 133, 3) := by decide +kernel
theorem dX12_init_791 : decode cX12_init 791 = .ok (.aload_n 0, 1) := by decide +kernel
theorem dX12_init_792 : decode cX12_init 792 = .ok (.bipush 64, 2) := by decide +kernel
theorem dX12_init_794 : decode cX12_init 794 = .ok (.newarray .int, 2) := by decide +kernel
theorem dX12_init_796 : decode cX12_init 796 = .ok (.putfield 136, 3) := by decide +kernel
theorem dX12_init_799 : decode cX12_init 799 = .ok (.aload_n 0, 1) := by decide +kernel
theorem dX12_init_800 : decode cX12_init 800 = .ok (.bipush 8, 2) := by decide +kernel
theorem dX12_init_802 : decode cX12_init 802 = .ok (.newarray .boolean, 2) := by decide +kernel
theorem dX12_init_804 : decode cX12_init 804 = .ok (.putfield 139, 3) := by decide +kernel
theorem dX12_init_807 : decode cX12_init 807 = .ok (.aload_n 0, 1) := by decide +kernel
theorem dX12_init_808 : decode cX12_init 808 = .ok (.bipush 8, 2) := by decide +kernel
theorem dX12_init_810 : decode cX12_init 810 = .ok (.newarray .int, 2) := by decide +kernel
theorem dX12_init_812 : decode cX12_init 812 = .ok (.putfield 142, 3) := by decide +kernel
theorem dX12_init_815 : decode cX12_init 815 = .ok (.aload_n 0, 1) := by decide +kernel
theorem dX12_init_816 : decode cX12_init 816 = .ok (.bipush 8, 2) := by decide +kernel
theorem dX12_init_818 : decode cX12_init 818 = .ok (.newarray .int, 2) := by decide +kernel
theorem dX12_init_820 : decode cX12_init 820 = .ok (.putfield 145, 3) := by decide +kernel
theorem dX12_init_823 : decode cX12_init 823 = .ok (.aload_n 0, 1) := by decide +kernel
theorem dX12_init_824 : decode cX12_init 824 = .ok (.bipush 8, 2) := by decide +kernel
theorem dX12_init_826 : decode cX12_init 826 = .ok (.newarray .int, 2) := by decide +kernel
theorem dX12_init_828 : decode cX12_init 828 = .ok (.putfield 148, 3) := by decide +kernel
theorem dX12_init_831 : decode cX12_init 831 = .ok (.aload_n 0, 1) := by decide +kernel
theorem dX12_init_832 : decode cX12_init 832 = .ok (.bipush 8, 2) := by decide +kernel
theorem dX12_init_834 : decode cX12_init 834 = .ok (.newarray .int, 2) := by decide +kernel
theorem dX12_init_836 : decode cX12_init 836 = .ok (.putfield 151, 3) := by decide +kernel
theorem dX12_init_839 : decode cX12_init 839 = .ok (.aload_n 0, 1) := by decide +kernel
theorem dX12_init_840 : decode cX12_init 840 = .ok (.bipush 8, 2) := by decide +kernel
theorem dX12_init_842 : decode cX12_init 842 = .ok (.newarray .int, 2) := by decide +kernel
theorem dX12_init_844 : decode cX12_init 844 = .ok (.putfield 154, 3) := by decide +kernel
theorem dX12_init_847 : decode cX12_init 847 = .ok (.aload_n 0, 1) := by decide +kernel
theorem dX12_init_848 : decode cX12_init 848 = .ok (.bipush 14, 2) := by decide +kernel
theorem dX12_init_850 : decode cX12_init 850 = .ok (.newarray .int, 2) := by decide +kernel
theorem dX12_init_852 : decode cX12_init 852 = .ok (.putfield 157, 3) := by decide +kernel
theorem dX12_init_855 : decode cX12_init 855 = .ok (.aload_n 0, 1) := by decide +kernel
theorem dX12_init_856 : decode cX12_init 856 = .ok (.bipush 14, 2) := by decide +kernel
theorem dX12_init_858 : decode cX12_init 858 = .ok (.newarray .int, 2) := by decide +kernel
theorem dX12_init_860 : decode cX12_init 860 = .ok (.putfield 160, 3) := by decide +kernel
theorem dX12_init_863 : decode cX12_init 863 = .ok (.aload_n 0, 1) := by decide +kernel
theorem dX12_init_864 : decode cX12_init 864 = .ok (.bipush 14, 2) := by decide +kernel
theorem dX12_init_866 : decode cX12_init 866 = .ok (.newarray .int, 2) := by decide +kernel
theorem dX12_init_868 : decode cX12_init 868 = .ok (.putfield 163, 3) := by decide +kernel
theorem dX12_init_871 : decode cX12_init 871 = .ok (.aload_n 0, 1) := by decide +kernel
theorem dX12_init_872 : decode cX12_init 872 = .ok (.bipush 14, 2) := by decide +kernel
theorem dX12_init_874 : decode cX12_init 874 = .ok (.newarray .int, 2) := by decide +kernel
theorem dX12_init_876 : decode cX12_init 876 = .ok (.putfield 166, 3) := by decide +kernel
theorem dX12_init_879 : decode cX12_init 879 = .ok (.aload_n 0, 1) := by decide +kernel
theorem dX12_init_880 : decode cX12_init 880 = .ok (.bipush 14, 2) := by decide +kernel
theorem dX12_init_882 : decode cX12_init 882 = .ok (.newarray .int, 2) := by decide +kernel
theorem dX12_init_884 : decode cX12_init 884 = .ok (.putfield 169, 3) := by decide +kernel
theorem dX12_init_887 : decode cX12_init 887 = .ok (.aload_n 0, 1) := by decide +kernel
theorem dX12_init_888 : decode cX12_init 888 = .ok (.bipush 14, 2) := by decide +kernel
theorem dX12_init_890 : decode cX12_init 890 = .ok (.newarray .int, 2) := by decide +kernel
theorem dX12_init_892 : decode cX12_init 892 = .ok (.putfield 172, 3) := by decide +kernel
theorem dX12_init_895 : decode cX12_init 895 = .ok (.aload_n 0, 1) := by decide +kernel
theorem dX12_init_896 : decode cX12_init 896 = .ok (.bipush 100, 2) := by decide +kernel
theorem dX12_init_898 : decode cX12_init 898 = .ok (.newarray .int, 2) := by decide +kernel
theorem dX12_init_900 : decode cX12_init 900 = .ok (.putfield 175, 3) := by decide +kernel
theorem dX12_init_903 : decode cX12_init 903 = .ok (.aload_n 0, 1) := by decide +kernel
theorem dX12_init_904 : decode cX12_init 904 = .ok (.bipush 100, 2) := by decide +kernel
theorem dX12_init_906 : decode cX12_init 906 = .ok (.newarray .int, 2) := by decide +kernel
theorem dX12_init_908 : decode cX12_init 908 = .ok (.putfield 178, 3) := by decide +kernel
theorem dX12_init_911 : decode cX12_init 911 = .ok (.aload_n 0, 1) := by decide +kernel
theorem dX12_init_912 : decode cX12_init 912 = .ok (.sipush 1400, 3) := by decide +kernel
theorem dX12_init_915 : decode cX12_init 915 = .ok (.newarray .int, 2) := by decide +kernel
theorem dX12_init_917 : decode cX12_init 917 = .ok (.putfield 181, 3) := by decide +kernel
theorem dX12_init_920 : decode cX12_init 920 = .ok (.aload_n 0, 1) := by decide +kernel
theorem dX12_init_921 : decode cX12_init 921 = .ok (.sipush 1400, 3) := by decide +kernel
theorem dX12_init_924 : decode cX12_init 924 = .ok (.newarray .int, 2) := by decide +kernel
theorem dX12_init_926 : decode cX12_init 926 = .ok (.putfield 184, 3) := by decide +kernel
theorem dX12_init_929 : decode cX12_init 929 = .ok (.aload_n 0, 1) := by decide +kernel
theorem dX12_init_930 : decode cX12_init 930 = .ok (.sipush 1400, 3) := by decide +kernel
theorem dX12_init_933 : decode cX12_init 933 = .ok (.newarray .int, 2) := by decide +kernel
theorem dX12_init_935 : decode cX12_init 935 = .ok (.putfield 187, 3) := by decide +kernel
theorem dX12_init_938 : decode cX12_init 938 = .ok (.aload_n 0, 1) := by decide +kernel
theorem dX12_init_939 : decode cX12_init 939 = .ok (.sipush 1400, 3) := by decide +kernel
theorem dX12_init_942 : decode cX12_init 942 = .ok (.newarray .int, 2) := by decide +kernel
theorem dX12_init_944 : decode cX12_init 944 = .ok (.putfield 190, 3) := by decide +kernel
theorem dX12_init_947 : decode cX12_init 947 = .ok (.aload_n 0, 1) := by decide +kernel
theorem dX12_init_948 : decode cX12_init 948 = .ok (.sipush 402, 3) := by decide +kernel
theorem dX12_init_951 : decode cX12_init 951 = .ok (.newarray .int, 2) := by decide +kernel
theorem dX12_init_953 : decode cX12_init 953 = .ok (.putfield 193, 3) := by decide +kernel
theorem dX12_init_956 : decode cX12_init 956 = .ok (.aload_n 0, 1) := by decide +kernel
theorem dX12_init_957 : decode cX12_init 957 = .ok (.sipush 402, 3) := by decide +kernel
theorem dX12_init_960 : decode cX12_init 960 = .ok (.newarray .int, 2) := by decide +kernel
theorem dX12_init_962 : decode cX12_init 962 = .ok (.putfield 196, 3) := by decide +kernel
theorem dX12_init_965 : decode cX12_init 965 = .ok (.aload_n 0, 1) := by decide +kernel
theorem dX12_init_966 : decode cX12_init 966 = .ok (.bipush 6, 2) := by decide +kernel
theorem dX12_init_968 : decode cX12_init 968 = .ok (.newarray .int, 2) := by decide +kernel
theorem dX12_init_970 : decode cX12_init 970 = .ok (.putfield 199, 3) := by decide +kernel
theorem dX12_init_973 : decode cX12_init 973 = .ok (.aload_n 0, 1) := by decide +kernel
theorem dX12_init_974 : decode cX12_init 974 = .ok (.bipush 124, 2) := by decide +kernel
theorem dX12_init_976 : decode cX12_init 976 = .ok (.newarray .int, 2) := by decide +kernel
theorem dX12_init_978 : decode cX12_init 978 = .ok (.putfield 202, 3) := by decide +kernel
theorem dX12_init_981 : decode cX12_init 981 = .ok (.aload_n 0, 1) := by decide +kernel
theorem dX12_init_982 : decode cX12_init 982 = .ok (.bipush 124, 2) := by decide +kernel
theorem dX12_init_984 : decode cX12_init 984 = .ok (.newarray .int, 2) := by decide +kernel
theorem dX12_init_986 : decode cX12_init 986 = .ok (.putfield 205, 3) := by decide +kernel
theorem dX12_init_989 : decode cX12_init 989 = .ok (.return_, 1) := by decide +kernel
theorem dL_law_0 : decode cL_law 0 = .ok (.new 8, 3) := by decide +kernel
theorem dL_law_3 : decode cL_law 3 = .ok (.dup, 1) := by decide +kernel
theorem dL_law_4 : decode cL_law 4 = .ok (.invokespecial 17, 3) := by decide +kernel
theorem dL_law_7 : decode cL_law 7 = .ok (.astore_n 1, 1) := by decide +kernel
theorem dL_law_8 : decode cL_law 8 = .ok (.new 18, 3) := by decide +kernel
theorem dL_law_11 : decode cL_law 11 = .ok (.dup, 1) := by decide +kernel
theorem dL_law_12 : decode cL_law 12 = .ok (.invokespecial 20, 3) := by decide +kernel
theorem dL_law_15 : decode cL_law 15 = .ok (.astore_n 2, 1) := by decide +kernel
theorem dL_law_16 : decode cL_law 16 = .ok (.iconst 1, 1) := by decide +kernel
theorem dL_law_17 : decode cL_law 17 = .ok (.newarray .long, 2) := by decide +kernel
theorem dL_law_19 : decode cL_law 19 = .ok (.astore_n 3, 1) := by decide +kernel
theorem dL_law_20 : decode cL_law 20 = .ok (.iconst 0, 1) := by decide +kernel
theorem dL_law_21 : decode cL_law 21 = .ok (.istore 4, 2) := by decide +kernel
