/-! the pure machine: one instruction, runs, calls -/
def pi_or (a b : Option Cf) : Option Cf := match a with
  | some x => some x
  | none => b
theorem pi_or_inv {a b : Option Cf} {x : Cf} (h : pi_or a b = some x) : a = some x ∨ b = some x := by
  unfold pi_or at h
  split at h
  · exact Or.inl h
  · exact Or.inr h
def pm_ins (L : Lk) (n nL : Nat) (ins : Instr) (len : Nat) (cf : Cf) : Option Cf := match ins with
  | .iadd => pi_gd len 1 (pi_ii (fun x y => some (x + y)) cf)
  | .isub => pi_gd len 1 (pi_ii (fun x y => some (x - y)) cf)
  | .imul => pi_gd len 1 (pi_ii (fun x y => some (x * y)) cf)
  | .iand => pi_gd len 1 (pi_ii (fun x y => some (x &&& y)) cf)
  | .ior => pi_gd len 1 (pi_ii (fun x y => some (x ||| y)) cf)
  | .ixor => pi_gd len 1 (pi_ii (fun x y => some (x ^^^ y)) cf)
  | .ishl => pi_gd len 1 (pi_ii (fun x y => some (x <<< (y &&& 31))) cf)
  | .ishr => pi_gd len 1 (pi_ii (fun x y => some (x >>> (y &&& 31))) cf)
  | .ladd => pi_gd len 1 (pi_ll (fun x y => some (x + y)) cf)
  | .lsub => pi_gd len 1 (pi_ll (fun x y => some (x - y)) cf)
  | .lmul => pi_gd len 1 (pi_ll (fun x y => some (x * y)) cf)
  | .land => pi_gd len 1 (pi_ll (fun x y => some (x &&& y)) cf)
  | .lor => pi_gd len 1 (pi_ll (fun x y => some (x ||| y)) cf)
  | .lxor => pi_gd len 1 (pi_ll (fun x y => some (x ^^^ y)) cf)
  | .iushr => pi_gd len 1 (pi_ii (fun x y => some ((x.toUInt32 >>> (y.toUInt32 &&& Int32.toUInt32 31)).toInt32)) cf)
  | .idiv => pi_gd len 1 (pi_ii (fun x y => if y = 0 then none else some (x / y)) cf)
  | .irem => pi_gd len 1 (pi_ii (fun x y => if y = 0 then none else some (x - x / y * y)) cf)
  | .ldiv => pi_gd len 1 (pi_ll (fun x y => if y = 0 then none else some (x / y)) cf)
  | .lrem => pi_gd len 1 (pi_ll (fun x y => if y = 0 then none else some (x - x / y * y)) cf)
  | .lshl => pi_gd len 1 (pi_li (fun x y => x <<< (y.toInt64 &&& 63)) cf)
  | .lshr => pi_gd len 1 (pi_li (fun x y => x >>> (y.toInt64 &&& 63)) cf)
  | .lushr => pi_gd len 1 (pi_li (fun x y => (x.toUInt64 >>> (y.toInt64.toUInt64 &&& Int64.toUInt64 63)).toInt64) cf)
  | .ineg => pi_gd len 1 (pi_i (fun x => .int (-x)) cf)
  | .i2l => pi_gd len 1 (pi_i (fun x => .long x.toInt64) cf)
  | .i2b => pi_gd len 1 (pi_i (fun x => .int x.toInt8.toInt32) cf)
  | .i2c => pi_gd len 1 (pi_i (fun x => .int (x.toUInt32 % 65536).toInt32) cf)
  | .l2i => pi_gd len 1 (pi_l (fun x => .int x.toInt32) cf)
  | .lcmp => pi_gd len 1 (pi_lc cf)
  | .dup => pi_gd len 1 (pi_dup cf)
  | .pop => pi_gd len 1 (pi_pop cf)
  | .dup2 => pi_gd len 1 (pi_dup2 cf)
  | .goto off => pi_gd len 3 (pi_goto off cf)
  | .ifCond q off => pi_gd len 3 (pi_if q off cf)
  | .if_icmp q off => pi_gd len 3 (pi_icmp q off cf)
  | .tableswitch d lo hi offs => pi_tsw d lo hi offs cf
  | .iconst z => pi_gd len 1 (pi_k (.int (Int32.ofInt z)) 1 cf)
  | .bipush z => pi_gd len 2 (pi_k (.int (Int8.ofInt z).toInt32) 2 cf)
  | .sipush z => pi_gd len 3 (pi_k (.int (Int16.ofInt z).toInt32) 3 cf)
  | .lconst z => pi_gd len 1 (pi_k (.long (Int64.ofNat (z : Nat))) 1 cf)
  | .iload_n z => pi_gd len 1 (pi_ld pm_isI (z : Nat) 1 cf)
  | .istore_n z => pi_gd len 1 (pi_st1 pm_isI (z : Nat) 1 nL cf)
  | .iload z => pi_gd len 2 (pi_ld pm_isI z 2 cf)
  | .istore z => pi_gd len 2 (pi_st1 pm_isI z 2 nL cf)
  | .lload_n z => pi_gd len 1 (pi_ld pm_isL (z : Nat) 1 cf)
  | .lstore_n z => pi_gd len 1 (pi_st2 (z : Nat) 1 nL cf)
  | .lload z => pi_gd len 2 (pi_ld pm_isL z 2 cf)
  | .lstore z => pi_gd len 2 (pi_st2 z 2 nL cf)
  | .aload_n z => pi_gd len 1 (pi_ld pm_isR (z : Nat) 1 cf)
  | .astore_n z => pi_gd len 1 (pi_st1 pm_isR (z : Nat) 1 nL cf)
  | .aload z => pi_gd len 2 (pi_ld pm_isR z 2 cf)
  | .astore z => pi_gd len 2 (pi_st1 pm_isR z 2 nL cf)
  | .iinc i z => pi_gd len 3 (pi_inc i z nL cf)
  | .getfield idx => pi_gd len 3 (pi_get L n idx cf)
  | .putfield idx => pi_gd len 3 (pi_put L n idx cf)
  | .getstatic idx => pi_gd len 3 (pi_stat L idx cf)
  | .ldc idx => pi_gd len 2 (pi_ldc L idx 2 (fun v => pm_isI v || pm_isR v) cf)
  | .ldc_w idx => pi_gd len 3 (pi_ldc L idx 3 pm_isI cf)
  | .ldc2_w idx => pi_gd len 3 (pi_ldc L idx 3 pm_isL cf)
  | .iaload => pi_or (pi_gd len 1 (pi_ald 0 n cf)) (pi_gd len 1 (pi_mld cf))
  | .caload => pi_gd len 1 (pi_ald 2 n cf)
  | .baload => pi_gd len 1 (pi_ald 3 n cf)
  | .laload => pi_gd len 1 (pi_lld n cf)
  | .aaload => pi_gd len 1 (pi_qld n cf)
  | .iastore => pi_gd len 1 (pi_ast 0 n (fun z => z) cf)
  | .castore => pi_gd len 1 (pi_ast 2 n (vp_nar .char) cf)
  | .bastore => pi_gd len 1 (pi_ast 3 n (vp_nar .boolean) cf)
  | .lastore => pi_gd len 1 (pi_lst n cf)
  | .arraylength => pi_gd len 1 (pi_len n cf)
  | _ => none
def pm_sem (L : Lk) (n nL : Nat) (cc : ByteArray) (cf : Cf) : Option Cf := match decode cc cf.1 with
  | .ok (ins, len) => pm_ins L n nL ins len cf
  | _ => none
section Pw3
variable {p : Program} {l : Launch} {e : Env} {R : Room} {s : State} {m : MethodId} {args : Array Value} {below : List Frame} {meth : Method} {c : Code} {Q : State → Prop}
variable {cc : ByteArray} {g : va_G} {aC : Nat → ClassId} {aM : Nat → Nat} {A : Nat → Prop} {ad : Nat → Nat} {n nL : Nat} {own : String} {cf cf' : Cf} {L : Lk}
set_option maxHeartbeats 4000000 in
theorem pm_ins_ok {ins : Instr} {len : Nat} (F : Fx p s m args c cc nL own g aC aM A) (hL : pm_ok own L) (had : pm_ad aM ad) (hd : decode cc cf.1 = .ok (ins, len)) (h : pm_ins L n nL ins len cf = some cf') (k : pm_W p l e R s m args below meth c Q g aC A ad n nL cf') : pm_W p l e R s m args below meth c Q g aC A ad n nL cf := by
  unfold pm_ins at h
  split at h
  · exact ps_iadd F hd h k
  · exact ps_isub F hd h k
  · exact ps_imul F hd h k
  · exact ps_iand F hd h k
  · exact ps_ior F hd h k
  · exact ps_ixor F hd h k
  · exact ps_ishl F hd h k
  · exact ps_ishr F hd h k
  · exact ps_ladd F hd h k
  · exact ps_lsub F hd h k
  · exact ps_lmul F hd h k
  · exact ps_land F hd h k
  · exact ps_lor F hd h k
  · exact ps_lxor F hd h k
  · exact ps_iushr F hd h k
  · exact ps_idiv F hd h k
  · exact ps_irem F hd h k
  · exact ps_ldiv F hd h k
  · exact ps_lrem F hd h k
  · exact ps_lshl F hd h k
  · exact ps_lshr F hd h k
  · exact ps_lushr F hd h k
  · exact ps_ineg F hd h k
  · exact ps_i2l F hd h k
  · exact ps_i2b F hd h k
  · exact ps_i2c F hd h k
  · exact ps_l2i F hd h k
  · exact ps_lcmp F hd h k
  · exact ps_dup F hd h k
  · exact ps_pop F hd h k
  · exact ps_dup2 F hd h k
  · exact ps_goto F hd h k
  · exact ps_if F hd h k
  · exact ps_icmp F hd h k
  · exact ps_tsw F hd h k
  · exact ps_iconst F hd h k
  · exact ps_bipush F hd h k
  · exact ps_sipush F hd h k
  · exact ps_lconst F hd h k
  · exact ps_iload_n F hd h k
  · exact ps_istore_n F hd h k
  · exact ps_iload F hd h k
  · exact ps_istore F hd h k
  · exact ps_lload_n F hd h k
  · exact ps_lstore_n F hd h k
  · exact ps_lload F hd h k
  · exact ps_lstore F hd h k
  · exact ps_aload_n F hd h k
  · exact ps_astore_n F hd h k
  · exact ps_aload F hd h k
  · exact ps_astore F hd h k
  · exact ps_iinc F hd h k
  · exact ps_getfield F hL hd h k
  · exact ps_putfield F hL hd h k
  · exact ps_getstatic F hL had hd h k
  · exact ps_ldc F hL had hd h k
  · exact ps_ldc_w F hL hd h k
  · exact ps_ldc2_w F hL hd h k
  · rcases pi_or_inv h with h | h
    · exact ps_iaload F hd h k
    · exact ps_mld F had hd h k
  · exact ps_caload F hd h k
  · exact ps_baload F hd h k
  · exact ps_laload F hd h k
  · exact ps_aaload F hd h k
  · exact ps_iastore F hd h k
  · exact ps_castore F hd h k
  · exact ps_bastore F hd h k
  · exact ps_lastore F hd h k
  · exact ps_arraylength F had hd h k
  · cases h
theorem pm_sem_ok (F : Fx p s m args c cc nL own g aC aM A) (hL : pm_ok own L) (had : pm_ad aM ad) (h : pm_sem L n nL cc cf = some cf') (k : pm_W p l e R s m args below meth c Q g aC A ad n nL cf') : pm_W p l e R s m args below meth c Q g aC A ad n nL cf := by
  unfold pm_sem at h
  split at h
  · rename_i ins len hd
    exact pm_ins_ok F hL had hd h k
  · cases h
end Pw3
