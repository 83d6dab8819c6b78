/-! instructions resolved -/
def gd1 (len k : Nat) (o : Op0) : Option Op0 := if len = k then some o else none
theorem gd1_ok {len k : Nat} {o op : Op0} (h : gd1 len k o = some op) : len = k ∧ op = o := by
  unfold gd1 at h
  split at h
  · rename_i e
    exact ⟨e, (Option.some.inj h).symm⟩
  · cases h
def qn (q : Jvm.ClassFile.Cond) : Nat := match q with
  | .eq => 0
  | .ne => 1
  | .lt => 2
  | .ge => 3
  | .gt => 4
  | .le => 5
theorem ccq_qn (q : Jvm.ClassFile.Cond) : ccq (qn q) = q := by cases q <;> rfl
def mpt (pc : Nat) : List Int → Option (List Nat)
  | [] => some []
  | o :: os => match pm_t pc o, mpt pc os with
    | some t, some ts => some (t :: ts)
    | _, _ => none
theorem mpt_ok {pc : Nat} : ∀ {os : List Int} {ts : List Nat}, mpt pc os = some ts → ∀ (i t : Nat), ts[i]? = some t → (os[i]?).bind (pm_t pc) = some t
  | [], ts, h, i, t, hi => by
    cases h
    cases i <;> cases hi
  | o :: os, ts, h, i, t, hi => by
    unfold mpt at h
    split at h
    · rename_i t0 ts0 h1 h2
      cases h
      cases i with
      | zero =>
        cases hi
        exact h1
      | succ i => exact mpt_ok h2 i t (by simpa using hi)
    · cases h
def rop (L : Lk) (nL pc : Nat) (ins : Instr) (len : Nat) : Option Op0 := match ins with
  | .iadd => gd1 len 1 (5, 0, 0, 0, pc + 1, [])
  | .isub => gd1 len 1 (5, 0, 1, 0, pc + 1, [])
  | .imul => gd1 len 1 (27, 0, 2, 0, pc + 1, [])
  | .iand => gd1 len 1 (5, 0, 3, 0, pc + 1, [])
  | .ior => gd1 len 1 (5, 0, 4, 0, pc + 1, [])
  | .ixor => gd1 len 1 (5, 0, 5, 0, pc + 1, [])
  | .ishl => gd1 len 1 (5, 0, 6, 0, pc + 1, [])
  | .ishr => gd1 len 1 (5, 0, 7, 0, pc + 1, [])
  | .iushr => gd1 len 1 (5, 0, 8, 0, pc + 1, [])
  | .idiv => gd1 len 1 (5, 0, 9, 0, pc + 1, [])
  | .irem => gd1 len 1 (5, 0, 10, 0, pc + 1, [])
  | .ladd => gd1 len 1 (6, 0, 0, 0, pc + 1, [])
  | .lsub => gd1 len 1 (6, 0, 1, 0, pc + 1, [])
  | .lmul => gd1 len 1 (6, 0, 2, 0, pc + 1, [])
  | .land => gd1 len 1 (6, 0, 3, 0, pc + 1, [])
  | .lor => gd1 len 1 (6, 0, 4, 0, pc + 1, [])
  | .lxor => gd1 len 1 (6, 0, 5, 0, pc + 1, [])
  | .ldiv => gd1 len 1 (6, 0, 6, 0, pc + 1, [])
  | .lrem => gd1 len 1 (6, 0, 7, 0, pc + 1, [])
  | .lshl => gd1 len 1 (25, 0, 0, 0, pc + 1, [])
  | .lshr => gd1 len 1 (25, 0, 1, 0, pc + 1, [])
  | .lushr => gd1 len 1 (25, 0, 2, 0, pc + 1, [])
  | .ineg => gd1 len 1 (7, 0, 0, 0, pc + 1, [])
  | .i2l => gd1 len 1 (7, 0, 1, 0, pc + 1, [])
  | .i2b => gd1 len 1 (7, 0, 2, 0, pc + 1, [])
  | .i2c => gd1 len 1 (7, 0, 3, 0, pc + 1, [])
  | .l2i => gd1 len 1 (26, 0, 0, 0, pc + 1, [])
  | .lcmp => gd1 len 1 (8, 0, 0, 0, pc + 1, [])
  | .dup => gd1 len 1 (9, 0, 0, 0, pc + 1, [])
  | .pop => gd1 len 1 (10, 0, 0, 0, pc + 1, [])
  | .dup2 => gd1 len 1 (11, 0, 0, 0, pc + 1, [])
  | .goto off => match pm_t pc off with
    | some t => gd1 len 3 (12, 0, 0, 0, t, [])
    | none => none
  | .ifCond q off => match pm_t pc off with
    | some t => gd1 len 3 (13, t, qn q, 0, pc + 3, [])
    | none => none
  | .if_icmp q off => match pm_t pc off with
    | some t => gd1 len 3 (14, t, qn q, 0, pc + 3, [])
    | none => none
  | .tableswitch d lo hi offs => match pm_t pc d, mpt pc offs.toList with
    | some t, some ts => if hi = lo + ts.length - 1 ∧ -2147483648 ≤ lo ∧ hi ≤ 2147483647 then some (15, 0, 0, lo, t, ts) else none
    | _, _ => none
  | .iconst z => gd1 len 1 (0, 0, 0, (Int32.ofInt z).toInt, pc + 1, [])
  | .bipush z => gd1 len 2 (0, 0, 0, (Int8.ofInt z).toInt32.toInt, pc + 2, [])
  | .sipush z => gd1 len 3 (0, 0, 0, (Int16.ofInt z).toInt32.toInt, pc + 3, [])
  | .lconst z => gd1 len 1 (1, 0, 0, (Int64.ofNat (z : Nat)).toInt, pc + 1, [])
  | .iload_n z => gd1 len 1 (3, (z : Nat), 0, 0, pc + 1, [])
  | .istore_n z => if (z : Nat) < nL then gd1 len 1 (4, (z : Nat), 0, 0, pc + 1, []) else none
  | .iload z => gd1 len 2 (3, z, 0, 0, pc + 2, [])
  | .istore z => if z < nL then gd1 len 2 (4, z, 0, 0, pc + 2, []) else none
  | .lload_n z => gd1 len 1 (3, (z : Nat), 1, 0, pc + 1, [])
  | .lstore_n z => if (z : Nat) + 1 < nL then gd1 len 1 (4, (z : Nat), 1, 0, pc + 1, []) else none
  | .lload z => gd1 len 2 (3, z, 1, 0, pc + 2, [])
  | .lstore z => if z + 1 < nL then gd1 len 2 (4, z, 1, 0, pc + 2, []) else none
  | .aload_n z => gd1 len 1 (3, (z : Nat), 2, 0, pc + 1, [])
  | .astore_n z => if (z : Nat) < nL then gd1 len 1 (4, (z : Nat), 2, 0, pc + 1, []) else none
  | .aload z => gd1 len 2 (3, z, 2, 0, pc + 2, [])
  | .astore z => if z < nL then gd1 len 2 (4, z, 2, 0, pc + 2, []) else none
  | .iinc i z => if i < nL ∧ -2147483648 ≤ z ∧ z ≤ 2147483647 then gd1 len 3 (16, i, 0, z, pc + 3, []) else none
  | .getfield idx => match L.1 idx with
    | some (ci, j, _, _) => gd1 len 3 (17, ci, j, 0, pc + 3, [])
    | none => none
  | .putfield idx => match L.1 idx with
    | some (ci, j, ty, false) => gd1 len 3 (18, ci, j, (tyc ty : Int), pc + 3, [])
    | _ => none
  | .getstatic idx => if L.2.2.1 idx = true then gd1 len 3 (2, 1000, 0, 0, pc + 3, []) else none
  | .ldc idx => match L.2.1 idx with
    | some (.int x) => gd1 len 2 (0, 0, 0, x.toInt, pc + 2, [])
    | some (.ref k) => gd1 len 2 (2, k, 0, 0, pc + 2, [])
    | _ => none
  | .ldc_w idx => match L.2.1 idx with
    | some (.int x) => gd1 len 3 (0, 0, 0, x.toInt, pc + 3, [])
    | _ => none
  | .ldc2_w idx => match L.2.1 idx with
    | some (.long x) => gd1 len 3 (1, 0, 0, x.toInt, pc + 3, [])
    | _ => none
  | .iaload => gd1 len 1 (19, 0, 0, 0, pc + 1, [])
  | .caload => gd1 len 1 (19, 0, 2, 0, pc + 1, [])
  | .baload => gd1 len 1 (19, 0, 3, 0, pc + 1, [])
  | .laload => gd1 len 1 (19, 0, 1, 0, pc + 1, [])
  | .aaload => gd1 len 1 (19, 0, 9, 0, pc + 1, [])
  | .iastore => gd1 len 1 (20, 0, 0, 0, pc + 1, [])
  | .castore => gd1 len 1 (20, 0, 2, 0, pc + 1, [])
  | .bastore => gd1 len 1 (20, 0, 3, 0, pc + 1, [])
  | .lastore => gd1 len 1 (20, 0, 1, 0, pc + 1, [])
  | .arraylength => gd1 len 1 (21, 0, 0, 0, pc + 1, [])
  | .ireturn => gd1 len 1 (22, 0, 0, 0, 0, [])
  | .lreturn => gd1 len 1 (22, 0, 1, 0, 0, [])
  | .return_ => gd1 len 1 (22, 0, 2, 0, 0, [])
  | .invokestatic idx => match L.2.2.2 idx with
    | some (k, np) => gd1 len 3 (23, k, np, 0, pc + 3, [idx])
    | none => gd1 len 3 (24, idx, 0, 0, pc + 3, [])
  | .invokevirtual idx => match L.2.2.2 idx with
    | some (k, np) => gd1 len 3 (23, k, np, 1, pc + 3, [idx])
    | none => gd1 len 3 (24, idx, 1, 0, pc + 3, [])
  | _ => none
def aop (HT : Nat → Hk) (RG : Nat → List Nat) (FK : Nat → Bool) (UN : Nat → Option Nat) (md : Md) (o : Op0) (A : Ab) : Option (List Ab) := match o.1 with
  | 0 => a_k (0, 0, o.2.2.2.1) o.2.2.2.2.1 A
  | 1 => a_k (1, 0, o.2.2.2.1) o.2.2.2.2.1 A
  | 2 => a_k (2, o.2.1, 0) o.2.2.2.2.1 A
  | 3 => a_ld o.2.2.1 o.2.1 o.2.2.2.2.1 A
  | 4 => a_st o.2.2.1 o.2.1 o.2.2.2.2.1 A
  | 5 => a_ii o.2.2.1 o.2.2.2.2.1 A
  | 6 => a_ll o.2.2.1 o.2.2.2.2.1 A
  | 7 => a_u o.2.2.1 o.2.2.2.2.1 A
  | 8 => a_lc o.2.2.2.2.1 A
  | 9 => a_dup o.2.2.2.2.1 A
  | 10 => a_pop o.2.2.2.2.1 A
  | 11 => a_dup2 o.2.2.2.2.1 A
  | 12 => a_go o.2.2.2.2.1 A
  | 13 => a_if o.2.2.1 o.2.1 o.2.2.2.2.1 A
  | 14 => a_icmp o.2.2.1 o.2.1 o.2.2.2.2.1 A
  | 15 => a_sw o.2.2.2.1 o.2.2.2.2.2 o.2.2.2.2.1 A
  | 16 => a_inc o.2.1 o.2.2.2.1 o.2.2.2.2.1 A
  | 17 => a_get HT RG FK o.2.1 o.2.2.1 o.2.2.2.2.1 A
  | 18 => a_put HT RG md o.2.1 o.2.2.1 o.2.2.2.1.toNat o.2.2.2.2.1 A
  | 19 => a_ald HT RG FK UN o.2.2.1 o.2.2.2.2.1 A
  | 20 => a_ast HT RG UN md o.2.2.1 o.2.2.2.2.1 A
  | 21 => a_len HT o.2.2.2.2.1 A
  | 25 => a_li o.2.2.2.2.1 A
  | 27 => a_mul o.2.2.2.2.1 A
  | 26 => a_l2i o.2.2.2.2.1 A
  | _ => none
section Stp
variable {HT : Nat → Hk} {RG : Nat → List Nat} {FK : Nat → Bool} {UN : Nat → Option Nat} {n : Nat} {md : Md} {h0 : Ph} {vs : List Int} {A : Ab} {cf : Cf}
theorem ald_ins {b nx : Nat} {Bs : List Ab} {o : Option Cf} (g : ga HT RG n md h0 vs A cf) (h : a_ald HT RG FK UN b nx A = some Bs) (hn : n ≤ 1000) (hU : ∀ r k0 k, UN r = some k0 → k ∈ RG r → HT k = HT k0) (hnx : nx = cf.1 + 1) (hb : b ≠ 0) (ho : o = fA b n cf) : ∃ cf', o = some cf' ∧ ∃ B ∈ Bs, ∃ ws, ga HT RG n md h0 (vs ++ ws) B cf' := by
  obtain ⟨cf', h1, h2⟩ := a_ald_ok g h hn hU hnx
  subst ho
  rcases h1 with h1 | ⟨h1, -⟩
  · exact ⟨cf', h1, h2⟩
  · exact absurd h1 hb
set_option maxHeartbeats 4000000 in
theorem aop_ok {L : Lk} {nL len : Nat} {ins : Instr} {o : Op0} {Bs : List Ab} (hn : n ≤ 1000) (hU : ∀ r k0 k, UN r = some k0 → k ∈ RG r → HT k = HT k0) (g : ga HT RG n md h0 vs A cf) (hr : rop L nL cf.1 ins len = some o) (h : aop HT RG FK UN md o A = some Bs) : ∃ cf', pm_ins L n nL ins len cf = some cf' ∧ ∃ B ∈ Bs, ∃ ws, ga HT RG n md h0 (vs ++ ws) B cf' := by
  unfold rop at hr
  split at hr
  · obtain ⟨rfl, rfl⟩ := gd1_ok hr
    exact a_ii_ok (b := 0) (nx := cf.1 + 1) g h rfl
  · obtain ⟨rfl, rfl⟩ := gd1_ok hr
    exact a_ii_ok (b := 1) (nx := cf.1 + 1) g h rfl
  · obtain ⟨rfl, rfl⟩ := gd1_ok hr
    exact a_mul_ok (nx := cf.1 + 1) g h rfl
  · obtain ⟨rfl, rfl⟩ := gd1_ok hr
    exact a_ii_ok (b := 3) (nx := cf.1 + 1) g h rfl
  · obtain ⟨rfl, rfl⟩ := gd1_ok hr
    exact a_ii_ok (b := 4) (nx := cf.1 + 1) g h rfl
  · obtain ⟨rfl, rfl⟩ := gd1_ok hr
    exact a_ii_ok (b := 5) (nx := cf.1 + 1) g h rfl
  · obtain ⟨rfl, rfl⟩ := gd1_ok hr
    exact a_ii_ok (b := 6) (nx := cf.1 + 1) g h rfl
  · obtain ⟨rfl, rfl⟩ := gd1_ok hr
    exact a_ii_ok (b := 7) (nx := cf.1 + 1) g h rfl
  · obtain ⟨rfl, rfl⟩ := gd1_ok hr
    exact a_ii_ok (b := 8) (nx := cf.1 + 1) g h rfl
  · obtain ⟨rfl, rfl⟩ := gd1_ok hr
    exact a_ii_ok (b := 9) (nx := cf.1 + 1) g h rfl
  · obtain ⟨rfl, rfl⟩ := gd1_ok hr
    exact a_ii_ok (b := 10) (nx := cf.1 + 1) g h rfl
  · obtain ⟨rfl, rfl⟩ := gd1_ok hr
    exact a_ll_ok (b := 0) (nx := cf.1 + 1) g h rfl
  · obtain ⟨rfl, rfl⟩ := gd1_ok hr
    exact a_ll_ok (b := 1) (nx := cf.1 + 1) g h rfl
  · obtain ⟨rfl, rfl⟩ := gd1_ok hr
    exact a_ll_ok (b := 2) (nx := cf.1 + 1) g h rfl
  · obtain ⟨rfl, rfl⟩ := gd1_ok hr
    exact a_ll_ok (b := 3) (nx := cf.1 + 1) g h rfl
  · obtain ⟨rfl, rfl⟩ := gd1_ok hr
    exact a_ll_ok (b := 4) (nx := cf.1 + 1) g h rfl
  · obtain ⟨rfl, rfl⟩ := gd1_ok hr
    exact a_ll_ok (b := 5) (nx := cf.1 + 1) g h rfl
  · obtain ⟨rfl, rfl⟩ := gd1_ok hr
    exact a_ll_ok (b := 6) (nx := cf.1 + 1) g h rfl
  · obtain ⟨rfl, rfl⟩ := gd1_ok hr
    exact a_ll_ok (b := 7) (nx := cf.1 + 1) g h rfl
  · obtain ⟨rfl, rfl⟩ := gd1_ok hr
    exact a_li_ok (b := 0) g h rfl
  · obtain ⟨rfl, rfl⟩ := gd1_ok hr
    exact a_li_ok (b := 1) g h rfl
  · obtain ⟨rfl, rfl⟩ := gd1_ok hr
    exact a_li_ok (b := 2) g h rfl
  · obtain ⟨rfl, rfl⟩ := gd1_ok hr
    exact a_u_ok (b := 0) (nx := cf.1 + 1) g h rfl
  · obtain ⟨rfl, rfl⟩ := gd1_ok hr
    exact a_u_ok (b := 1) (nx := cf.1 + 1) g h rfl
  · obtain ⟨rfl, rfl⟩ := gd1_ok hr
    exact a_u_ok (b := 2) (nx := cf.1 + 1) g h rfl
  · obtain ⟨rfl, rfl⟩ := gd1_ok hr
    exact a_u_ok (b := 3) (nx := cf.1 + 1) g h rfl
  · obtain ⟨rfl, rfl⟩ := gd1_ok hr
    exact a_l2i_ok g h rfl
  · obtain ⟨rfl, rfl⟩ := gd1_ok hr
    exact a_lc_ok g h rfl
  · obtain ⟨rfl, rfl⟩ := gd1_ok hr
    exact a_dup_ok g h rfl
  · obtain ⟨rfl, rfl⟩ := gd1_ok hr
    exact a_pop_ok g h rfl
  · obtain ⟨rfl, rfl⟩ := gd1_ok hr
    exact a_dup2_ok g h rfl
  · split at hr
    · rename_i t ht
      obtain ⟨rfl, rfl⟩ := gd1_ok hr
      exact a_go_ok g h ht
    · cases hr
  · split at hr
    · rename_i q off t ht
      obtain ⟨rfl, rfl⟩ := gd1_ok hr
      have := a_if_ok g h ht rfl
      rw [ccq_qn] at this
      exact this
    · cases hr
  · split at hr
    · rename_i q off t ht
      obtain ⟨rfl, rfl⟩ := gd1_ok hr
      have := a_icmp_ok g h ht rfl
      rw [ccq_qn] at this
      exact this
    · cases hr
  · split at hr
    · rename_i d lo hi offs t ts h1 h2
      split at hr
      · rename_i hc
        cases hr
        exact a_sw_ok g h h1 hc.1 hc.2 (fun i t hi => by rw [← Array.getElem?_toList]; exact mpt_ok h2 i t hi)
      · cases hr
    · cases hr
  · obtain ⟨rfl, rfl⟩ := gd1_ok hr
    exact a_k_ok g h rfl ⟨rfl, 0, g.2.2.2.1.2.1, (Int.zero_add _).symm⟩
  · obtain ⟨rfl, rfl⟩ := gd1_ok hr
    exact a_k_ok g h rfl ⟨rfl, 0, g.2.2.2.1.2.1, (Int.zero_add _).symm⟩
  · obtain ⟨rfl, rfl⟩ := gd1_ok hr
    exact a_k_ok g h rfl ⟨rfl, 0, g.2.2.2.1.2.1, (Int.zero_add _).symm⟩
  · obtain ⟨rfl, rfl⟩ := gd1_ok hr
    exact a_k_ok g h rfl ⟨rfl, 0, g.2.2.2.1.2.1, (Int.zero_add _).symm⟩
  · obtain ⟨rfl, rfl⟩ := gd1_ok hr
    exact a_ld_ok (b := 0) g h rfl
  · split at hr
    · rename_i hc
      obtain ⟨rfl, rfl⟩ := gd1_ok hr
      exact a_st1_ok (b := 0) g h (by decide) hc rfl
    · cases hr
  · obtain ⟨rfl, rfl⟩ := gd1_ok hr
    exact a_ld_ok (b := 0) g h rfl
  · split at hr
    · rename_i hc
      obtain ⟨rfl, rfl⟩ := gd1_ok hr
      exact a_st1_ok (b := 0) g h (by decide) hc rfl
    · cases hr
  · obtain ⟨rfl, rfl⟩ := gd1_ok hr
    exact a_ld_ok (b := 1) g h rfl
  · split at hr
    · rename_i hc
      obtain ⟨rfl, rfl⟩ := gd1_ok hr
      exact a_st2_ok g h hc rfl
    · cases hr
  · obtain ⟨rfl, rfl⟩ := gd1_ok hr
    exact a_ld_ok (b := 1) g h rfl
  · split at hr
    · rename_i hc
      obtain ⟨rfl, rfl⟩ := gd1_ok hr
      exact a_st2_ok g h hc rfl
    · cases hr
  · obtain ⟨rfl, rfl⟩ := gd1_ok hr
    exact a_ld_ok (b := 2) g h rfl
  · split at hr
    · rename_i hc
      obtain ⟨rfl, rfl⟩ := gd1_ok hr
      exact a_st1_ok (b := 2) g h (by decide) hc rfl
    · cases hr
  · obtain ⟨rfl, rfl⟩ := gd1_ok hr
    exact a_ld_ok (b := 2) g h rfl
  · split at hr
    · rename_i hc
      obtain ⟨rfl, rfl⟩ := gd1_ok hr
      exact a_st1_ok (b := 2) g h (by decide) hc rfl
    · cases hr
  · split at hr
    · rename_i hc
      obtain ⟨rfl, rfl⟩ := gd1_ok hr
      exact a_inc_ok g h hc.1 hc.2 rfl
    · cases hr
  · split at hr
    · rename_i hL
      obtain ⟨rfl, rfl⟩ := gd1_ok hr
      exact a_get_ok g h hL rfl
    · cases hr
  · split at hr
    · rename_i hL
      obtain ⟨rfl, rfl⟩ := gd1_ok hr
      exact a_put_ok g h hL rfl
    · cases hr
  · split at hr
    · rename_i hL
      obtain ⟨rfl, rfl⟩ := gd1_ok hr
      obtain ⟨cf', h1, h2⟩ := a_k_ok (len := 3) (v := .ref 1000) g h rfl (Or.inl ⟨rfl, rfl⟩)
      refine ⟨cf', ?_, h2⟩
      show pi_stat _ _ _ = _
      unfold pi_stat
      rw [if_pos hL]
      exact h1
    · cases hr
  · split at hr
    · rename_i x hL
      obtain ⟨rfl, rfl⟩ := gd1_ok hr
      obtain ⟨cf', h1, h2⟩ := a_k_ok (len := 2) (v := .int x) g h rfl ⟨rfl, 0, g.2.2.2.1.2.1, (Int.zero_add _).symm⟩
      refine ⟨cf', ?_, h2⟩
      show pi_ldc _ _ _ _ _ = _
      unfold pi_ldc
      rw [hL]
      exact h1
    · rename_i x hL
      obtain ⟨rfl, rfl⟩ := gd1_ok hr
      obtain ⟨cf', h1, h2⟩ := a_k_ok (len := 2) (v := .ref x) g h rfl (Or.inl ⟨rfl, rfl⟩)
      refine ⟨cf', ?_, h2⟩
      show pi_ldc _ _ _ _ _ = _
      unfold pi_ldc
      rw [hL]
      exact h1
    · cases hr
  · split at hr
    · rename_i x hL
      obtain ⟨rfl, rfl⟩ := gd1_ok hr
      obtain ⟨cf', h1, h2⟩ := a_k_ok (len := 3) (v := .int x) g h rfl ⟨rfl, 0, g.2.2.2.1.2.1, (Int.zero_add _).symm⟩
      refine ⟨cf', ?_, h2⟩
      show pi_ldc _ _ _ _ _ = _
      unfold pi_ldc
      rw [hL]
      exact h1
    · cases hr
  · split at hr
    · rename_i x hL
      obtain ⟨rfl, rfl⟩ := gd1_ok hr
      obtain ⟨cf', h1, h2⟩ := a_k_ok (len := 3) (v := .long x) g h rfl ⟨rfl, 0, g.2.2.2.1.2.1, (Int.zero_add _).symm⟩
      refine ⟨cf', ?_, h2⟩
      show pi_ldc _ _ _ _ _ = _
      unfold pi_ldc
      rw [hL]
      exact h1
    · cases hr
  · obtain ⟨rfl, rfl⟩ := gd1_ok hr
    obtain ⟨cf', h1, h2⟩ := a_ald_ok g h hn hU rfl
    refine ⟨cf', ?_, h2⟩
    show pi_or (pi_ald 0 n cf) (pi_mld cf) = _
    rcases h1 with h1 | ⟨-, h1, h3⟩
    · have h1 : pi_ald 0 n cf = some cf' := h1
      rw [h1]
      rfl
    · rw [h1]
      exact h3
  · obtain ⟨rfl, rfl⟩ := gd1_ok hr
    exact ald_ins (b := 2) (nx := cf.1 + 1) g h hn hU rfl (by decide) rfl
  · obtain ⟨rfl, rfl⟩ := gd1_ok hr
    exact ald_ins (b := 3) (nx := cf.1 + 1) g h hn hU rfl (by decide) rfl
  · obtain ⟨rfl, rfl⟩ := gd1_ok hr
    exact ald_ins (b := 1) (nx := cf.1 + 1) g h hn hU rfl (by decide) rfl
  · obtain ⟨rfl, rfl⟩ := gd1_ok hr
    exact ald_ins (b := 9) (nx := cf.1 + 1) g h hn hU rfl (by decide) rfl
  · obtain ⟨rfl, rfl⟩ := gd1_ok hr
    exact a_ast_ok (b := 0) (nx := cf.1 + 1) g h hU rfl
  · obtain ⟨rfl, rfl⟩ := gd1_ok hr
    exact a_ast_ok (b := 2) (nx := cf.1 + 1) g h hU rfl
  · obtain ⟨rfl, rfl⟩ := gd1_ok hr
    exact a_ast_ok (b := 3) (nx := cf.1 + 1) g h hU rfl
  · obtain ⟨rfl, rfl⟩ := gd1_ok hr
    exact a_ast_ok (b := 1) (nx := cf.1 + 1) g h hU rfl
  · obtain ⟨rfl, rfl⟩ := gd1_ok hr
    exact a_len_ok g h hn rfl
  iterate 3
    · obtain ⟨rfl, rfl⟩ := gd1_ok hr
      cases h
  · split at hr
    · obtain ⟨rfl, rfl⟩ := gd1_ok hr
      cases h
    · obtain ⟨rfl, rfl⟩ := gd1_ok hr
      cases h
  · split at hr
    · obtain ⟨rfl, rfl⟩ := gd1_ok hr
      cases h
    · obtain ⟨rfl, rfl⟩ := gd1_ok hr
      cases h
  · cases hr
end Stp
