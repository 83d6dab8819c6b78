/-! one instruction, all kinds; calls of the JDK; runs -/
section Zd
variable {nL len : Nat} {L : Lk} {cf cf' : Cf} {Lz : List Int} {o : Op0} {ins : Instr}
theorem i32_1 {β : Type} (f : Int32 → β) (x : Int32) : f (Int32.ofInt x.toInt) = f x := by rw [Int32.ofInt_toInt]
theorem i32_2 {β : Type} (f : Int32 → Int32 → β) (x y : Int32) : f (Int32.ofInt x.toInt) (Int32.ofInt y.toInt) = f x y := by rw [Int32.ofInt_toInt, Int32.ofInt_toInt]
theorem i64_2 {β : Type} (f : Int64 → Int64 → β) (x y : Int64) : f (Int64.ofInt x.toInt) (Int64.ofInt y.toInt) = f x y := by rw [Int64.ofInt_toInt, Int64.ofInt_toInt]
theorem i6432 {β : Type} (f : Int64 → Int32 → β) (x : Int64) (y : Int32) : f (Int64.ofInt x.toInt) (Int32.ofInt y.toInt) = f x y := by rw [Int64.ofInt_toInt, Int32.ofInt_toInt]
theorem zs_kg {v : Value} {k : Nat} (hl : rl nL cf.2.1 Lz) (hk : Kp cf.2.2.2) (h : pi_gd len k (pi_k v k cf) = some cf') (ho : o = (0, 0, 0, zV v, cf.1 + k, []) ∧ v.category = 1 ∨ o = (1, 0, 0, zV v, cf.1 + k, []) ∧ v.category = 2) : zSt nL o cf cf' Lz := by
  obtain ⟨-, h⟩ := pi_gd_inv h
  exact zs_k (st := []) hl hk (Option.some.inj h).symm ho
theorem zs_kr {r k : Nat} (hl : rl nL cf.2.1 Lz) (hk : Kp cf.2.2.2) (h : cf' = (cf.1 + k, cf.2.1, .ref r :: cf.2.2.1, cf.2.2.2)) (ho : o = (2, r, 0, 0, cf.1 + k, [])) : zSt nL o cf cf' Lz := by
  subst ho
  exact zs_st hl hk h (bq _) (fun E cl go => rfl)
theorem zs_ldc {idx k : Nat} {v : Value} {kd : Value → Bool} (h : pi_gd len k (pi_ldc L idx k kd cf) = some cf') (hL : L.2.1 idx = some v) : cf' = (cf.1 + k, cf.2.1, v :: cf.2.2.1, cf.2.2.2) := by
  obtain ⟨-, h⟩ := pi_gd_inv h
  unfold pi_ldc at h
  rw [hL] at h
  have h : (if kd v = true then some (cf.1 + k, cf.2.1, v :: cf.2.2.1, cf.2.2.2) else none) = some cf' := h
  split at h
  · exact (Option.some.inj h).symm
  · cases h
set_option maxHeartbeats 8000000 in
theorem zst_ok (hL : zLk L) (hl : rl nL cf.2.1 Lz) (hk : Kp cf.2.2.2) (hr : rop L nL cf.1 ins len = some o) (h : pm_ins L 229 nL ins len cf = some cf') : zSt nL o cf cf' Lz := by
  unfold rop at hr
  split at hr
  · obtain ⟨rfl, rfl⟩ := gd1_ok hr
    exact zs_ii (b := 0) (fun x y v e => by cases e; exact (Int32.toInt_add x y).symm) hl hk h (Or.inl rfl)
  · obtain ⟨rfl, rfl⟩ := gd1_ok hr
    exact zs_ii (b := 1) (fun x y v e => by cases e; exact (Int32.toInt_sub x y).symm) hl hk h (Or.inl rfl)
  · obtain ⟨rfl, rfl⟩ := gd1_ok hr
    exact zs_ii (b := 2) (fun x y v e => by cases e; exact (Int32.toInt_mul x y).symm) hl hk h (Or.inr rfl)
  · obtain ⟨rfl, rfl⟩ := gd1_ok hr
    exact zs_ii (b := 3) (fun x y v e => by cases e; exact i32_2 (fun a b => (a &&& b).toInt) x y) hl hk h (Or.inl rfl)
  · obtain ⟨rfl, rfl⟩ := gd1_ok hr
    exact zs_ii (b := 4) (fun x y v e => by cases e; exact i32_2 (fun a b => (a ||| b).toInt) x y) hl hk h (Or.inl rfl)
  · obtain ⟨rfl, rfl⟩ := gd1_ok hr
    exact zs_ii (b := 5) (fun x y v e => by cases e; exact i32_2 (fun a b => (a ^^^ b).toInt) x y) hl hk h (Or.inl rfl)
  · obtain ⟨rfl, rfl⟩ := gd1_ok hr
    exact zs_ii (b := 6) (fun x y v e => by cases e; exact i32_2 (fun a b => (a <<< (b &&& 31)).toInt) x y) hl hk h (Or.inl rfl)
  · obtain ⟨rfl, rfl⟩ := gd1_ok hr
    exact zs_ii (b := 7) (fun x y v e => by cases e; exact i32_2 (fun a b => (a >>> (b &&& 31)).toInt) x y) hl hk h (Or.inl rfl)
  · obtain ⟨rfl, rfl⟩ := gd1_ok hr
    exact zs_ii (b := 8) (fun x y v e => by cases e; exact i32_2 (fun a b => ((a.toUInt32 >>> (b.toUInt32 &&& Int32.toUInt32 31)).toInt32).toInt) x y) hl hk h (Or.inl rfl)
  · obtain ⟨rfl, rfl⟩ := gd1_ok hr
    exact zs_ii (b := 9) (fun x y v e => by
      split at e
      · cases e
      · cases e
        exact i32_2 (fun a b => (a / b).toInt) x y) hl hk h (Or.inl rfl)
  · obtain ⟨rfl, rfl⟩ := gd1_ok hr
    exact zs_ii (b := 10) (fun x y v e => by
      split at e
      · cases e
      · cases e
        exact i32_2 (fun a b => (a - a / b * b).toInt) x y) hl hk h (Or.inl rfl)
  · obtain ⟨rfl, rfl⟩ := gd1_ok hr
    exact zs_ll (b := 0) (fun x y v e => by cases e; exact (Int64.toInt_add x y).symm) hl hk h rfl
  · obtain ⟨rfl, rfl⟩ := gd1_ok hr
    exact zs_ll (b := 1) (fun x y v e => by cases e; exact (Int64.toInt_sub x y).symm) hl hk h rfl
  · obtain ⟨rfl, rfl⟩ := gd1_ok hr
    exact zs_ll (b := 2) (fun x y v e => by cases e; exact (Int64.toInt_mul x y).symm) hl hk h rfl
  · obtain ⟨rfl, rfl⟩ := gd1_ok hr
    exact zs_ll (b := 3) (fun x y v e => by cases e; exact i64_2 (fun a b => (a &&& b).toInt) x y) hl hk h rfl
  · obtain ⟨rfl, rfl⟩ := gd1_ok hr
    exact zs_ll (b := 4) (fun x y v e => by cases e; exact i64_2 (fun a b => (a ||| b).toInt) x y) hl hk h rfl
  · obtain ⟨rfl, rfl⟩ := gd1_ok hr
    exact zs_ll (b := 5) (fun x y v e => by cases e; exact i64_2 (fun a b => (a ^^^ b).toInt) x y) hl hk h rfl
  · obtain ⟨rfl, rfl⟩ := gd1_ok hr
    exact zs_ll (b := 6) (fun x y v e => by
      split at e
      · cases e
      · cases e
        exact i64_2 (fun a b => (a / b).toInt) x y) hl hk h rfl
  · obtain ⟨rfl, rfl⟩ := gd1_ok hr
    exact zs_ll (b := 7) (fun x y v e => by
      split at e
      · cases e
      · cases e
        exact i64_2 (fun a b => (a - a / b * b).toInt) x y) hl hk h rfl
  · obtain ⟨rfl, rfl⟩ := gd1_ok hr
    exact zs_li (b := 0) (fun x y => i6432 (fun a b => (a <<< (b.toInt64 &&& 63)).toInt) x y) hl hk h rfl
  · obtain ⟨rfl, rfl⟩ := gd1_ok hr
    exact zs_li (b := 1) (fun x y => i6432 (fun a b => (a >>> (b.toInt64 &&& 63)).toInt) x y) hl hk h rfl
  · obtain ⟨rfl, rfl⟩ := gd1_ok hr
    exact zs_li (b := 2) (fun x y => i6432 (fun a b => ((a.toUInt64 >>> (b.toInt64.toUInt64 &&& Int64.toUInt64 63)).toInt64).toInt) x y) hl hk h rfl
  · obtain ⟨rfl, rfl⟩ := gd1_ok hr
    refine zs_i (b := 0) hl hk h rfl (fun x st s E cl go => ?_)
    show go _ (Lz, (zq_neg x.toInt, 0) :: st, s) = go _ (Lz, ((-x).toInt, 0) :: st, s)
    rw [show zq_neg x.toInt = (-x).toInt from i32_1 (fun a => (-a).toInt) x]
  · obtain ⟨rfl, rfl⟩ := gd1_ok hr
    refine zs_i (b := 1) hl hk h rfl (fun x st s E cl go => ?_)
    show go _ (Lz, (x.toInt, 1) :: st, s) = go _ (Lz, (x.toInt64.toInt, 1) :: st, s)
    rw [Int32.toInt_toInt64]
  · obtain ⟨rfl, rfl⟩ := gd1_ok hr
    refine zs_i (b := 2) hl hk h rfl (fun x st s E cl go => ?_)
    show go _ (Lz, (zi2b x.toInt, 0) :: st, s) = go _ (Lz, (x.toInt8.toInt32.toInt, 0) :: st, s)
    rw [show zi2b x.toInt = x.toInt8.toInt32.toInt from i32_1 (fun a => a.toInt8.toInt32.toInt) x]
  · obtain ⟨rfl, rfl⟩ := gd1_ok hr
    refine zs_i (b := 3) hl hk h rfl (fun x st s E cl go => ?_)
    show go _ (Lz, (zi2c x.toInt, 0) :: st, s) = go _ (Lz, ((x.toUInt32 % 65536).toInt32.toInt, 0) :: st, s)
    rw [show zi2c x.toInt = (x.toUInt32 % 65536).toInt32.toInt from i32_1 (fun a => (a.toUInt32 % 65536).toInt32.toInt) x]
  · obtain ⟨rfl, rfl⟩ := gd1_ok hr
    exact zs_l hl hk h rfl
  · obtain ⟨rfl, rfl⟩ := gd1_ok hr
    exact zs_lc hl hk h rfl
  · obtain ⟨rfl, rfl⟩ := gd1_ok hr
    exact zs_dup hl hk h rfl
  · obtain ⟨rfl, rfl⟩ := gd1_ok hr
    exact zs_pop hl hk h rfl
  · obtain ⟨rfl, rfl⟩ := gd1_ok hr
    exact zs_dup2 hl hk h rfl
  · split at hr
    · rename_i t ht
      obtain ⟨rfl, rfl⟩ := gd1_ok hr
      exact zs_goto hl hk h ht rfl
    · cases hr
  · split at hr
    · rename_i q off t ht
      obtain ⟨rfl, rfl⟩ := gd1_ok hr
      exact zs_if hl hk h ht rfl
    · cases hr
  · split at hr
    · rename_i q off t ht
      obtain ⟨rfl, rfl⟩ := gd1_ok hr
      exact zs_icmp hl hk h ht rfl
    · cases hr
  · split at hr
    · rename_i d lo hi offs t ts h1 h2
      split at hr
      · rename_i hc
        cases hr
        exact zs_tsw hl hk h h1 h2 hc.1 rfl
      · cases hr
    · cases hr
  · obtain ⟨rfl, rfl⟩ := gd1_ok hr
    exact zs_kg hl hk h (Or.inl ⟨rfl, rfl⟩)
  · obtain ⟨rfl, rfl⟩ := gd1_ok hr
    exact zs_kg hl hk h (Or.inl ⟨rfl, rfl⟩)
  · obtain ⟨rfl, rfl⟩ := gd1_ok hr
    exact zs_kg hl hk h (Or.inl ⟨rfl, rfl⟩)
  · obtain ⟨rfl, rfl⟩ := gd1_ok hr
    exact zs_kg hl hk h (Or.inr ⟨rfl, rfl⟩)
  · obtain ⟨rfl, rfl⟩ := gd1_ok hr
    exact zs_ld (b := 0) (fun v hv => by cases v <;> first | rfl | cases hv) hl hk h rfl
  · split at hr
    · rename_i hc
      obtain ⟨rfl, rfl⟩ := gd1_ok hr
      exact zs_st1 (b := 0) hl hk h rfl
    · cases hr
  · obtain ⟨rfl, rfl⟩ := gd1_ok hr
    exact zs_ld (b := 0) (fun v hv => by cases v <;> first | rfl | cases hv) hl hk h rfl
  · split at hr
    · rename_i hc
      obtain ⟨rfl, rfl⟩ := gd1_ok hr
      exact zs_st1 (b := 0) hl hk h rfl
    · cases hr
  · obtain ⟨rfl, rfl⟩ := gd1_ok hr
    exact zs_ld (b := 1) (fun v hv => by cases v <;> first | rfl | cases hv) hl hk h rfl
  · split at hr
    · rename_i hc
      obtain ⟨rfl, rfl⟩ := gd1_ok hr
      exact zs_st2 (b := 1) hl hk h rfl
    · cases hr
  · obtain ⟨rfl, rfl⟩ := gd1_ok hr
    exact zs_ld (b := 1) (fun v hv => by cases v <;> first | rfl | cases hv) hl hk h rfl
  · split at hr
    · rename_i hc
      obtain ⟨rfl, rfl⟩ := gd1_ok hr
      exact zs_st2 (b := 1) hl hk h rfl
    · cases hr
  · obtain ⟨rfl, rfl⟩ := gd1_ok hr
    exact zs_ld (b := 2) (fun v hv => by cases v <;> first | rfl | cases hv) hl hk h rfl
  · split at hr
    · rename_i hc
      obtain ⟨rfl, rfl⟩ := gd1_ok hr
      exact zs_st1 (b := 2) hl hk h rfl
    · cases hr
  · obtain ⟨rfl, rfl⟩ := gd1_ok hr
    exact zs_ld (b := 2) (fun v hv => by cases v <;> first | rfl | cases hv) hl hk h rfl
  · split at hr
    · rename_i hc
      obtain ⟨rfl, rfl⟩ := gd1_ok hr
      exact zs_st1 (b := 2) hl hk h rfl
    · cases hr
  · split at hr
    · rename_i hc
      obtain ⟨rfl, rfl⟩ := gd1_ok hr
      exact zs_inc hl hk hc.2.1 hc.2.2 h rfl
    · cases hr
  · split at hr
    · rename_i hi
      obtain ⟨rfl, rfl⟩ := gd1_ok hr
      exact zs_get hl hk h hi rfl
    · cases hr
  · split at hr
    · rename_i hi
      obtain ⟨rfl, rfl⟩ := gd1_ok hr
      exact zs_put hL hl hk h hi rfl
    · cases hr
  · split at hr
    · rename_i hi
      obtain ⟨rfl, rfl⟩ := gd1_ok hr
      obtain ⟨-, h⟩ := pi_gd_inv h
      unfold pi_stat at h
      rw [if_pos hi] at h
      exact zs_kr (k := 3) hl hk (Option.some.inj h).symm rfl
    · cases hr
  · split at hr
    · rename_i x hi
      obtain ⟨rfl, rfl⟩ := gd1_ok hr
      exact zs_k (k := 2) (v := .int x) (st := []) hl hk (zs_ldc h hi) (Or.inl ⟨rfl, rfl⟩)
    · rename_i x hi
      obtain ⟨rfl, rfl⟩ := gd1_ok hr
      exact zs_kr (k := 2) hl hk (zs_ldc h hi) rfl
    · cases hr
  · split at hr
    · rename_i x hi
      obtain ⟨rfl, rfl⟩ := gd1_ok hr
      exact zs_k (k := 3) (v := .int x) (st := []) hl hk (zs_ldc h hi) (Or.inl ⟨rfl, rfl⟩)
    · cases hr
  · split at hr
    · rename_i x hi
      obtain ⟨rfl, rfl⟩ := gd1_ok hr
      exact zs_k (k := 3) (v := .long x) (st := []) hl hk (zs_ldc h hi) (Or.inr ⟨rfl, rfl⟩)
    · cases hr
  · obtain ⟨rfl, rfl⟩ := gd1_ok hr
    rcases pi_or_inv h with h | h
    · exact zs_ald (b := 0) hl hk h (by decide) rfl
    · exact zs_mld hl hk h rfl
  · obtain ⟨rfl, rfl⟩ := gd1_ok hr
    exact zs_ald (b := 2) hl hk h (by decide) rfl
  · obtain ⟨rfl, rfl⟩ := gd1_ok hr
    exact zs_ald (b := 3) hl hk h (by decide) rfl
  · obtain ⟨rfl, rfl⟩ := gd1_ok hr
    exact zs_lld hl hk h rfl
  · obtain ⟨rfl, rfl⟩ := gd1_ok hr
    exact zs_qld hl hk h rfl
  · obtain ⟨rfl, rfl⟩ := gd1_ok hr
    exact zs_ast (b := 0) hl hk h (fun x => rfl) rfl
  · obtain ⟨rfl, rfl⟩ := gd1_ok hr
    exact zs_ast (b := 2) hl hk h zst2_ok rfl
  · obtain ⟨rfl, rfl⟩ := gd1_ok hr
    exact zs_ast (b := 3) hl hk h zst3_ok rfl
  · obtain ⟨rfl, rfl⟩ := gd1_ok hr
    exact zs_lst hl hk h rfl
  · obtain ⟨rfl, rfl⟩ := gd1_ok hr
    exact zs_len hl hk h rfl
  iterate 3
    · obtain ⟨rfl, rfl⟩ := gd1_ok hr
      cases h
  · split at hr
    · obtain ⟨rfl, rfl⟩ := gd1_ok hr
      cases h
    · obtain ⟨rfl, rfl⟩ := gd1_ok hr
      cases h
  · split at hr
    · obtain ⟨rfl, rfl⟩ := gd1_ok hr
      cases h
    · obtain ⟨rfl, rfl⟩ := gd1_ok hr
      cases h
  · cases hr
end Zd
