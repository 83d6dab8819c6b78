theorem kI0 : Cond.instantiable RX0 2 ∈ gw := List.mem_filter.mpr ⟨List.mem_append_right _ (by decide +kernel), by decide +kernel⟩
theorem kI1 : Cond.instantiable RX1 3 ∈ gw := List.mem_filter.mpr ⟨List.mem_append_right _ (by decide +kernel), by decide +kernel⟩
theorem kI2 : Cond.instantiable RX2 3 ∈ gw := List.mem_filter.mpr ⟨List.mem_append_right _ (by decide +kernel), by decide +kernel⟩
theorem kI3 : Cond.instantiable RX3 5 ∈ gw := List.mem_filter.mpr ⟨List.mem_append_right _ (by decide +kernel), by decide +kernel⟩
theorem kI4 : Cond.instantiable RX4 3 ∈ gw := List.mem_filter.mpr ⟨List.mem_append_right _ (by decide +kernel), by decide +kernel⟩
theorem kI5 : Cond.instantiable RX5 5 ∈ gw := List.mem_filter.mpr ⟨List.mem_append_right _ (by decide +kernel), by decide +kernel⟩
theorem kI6 : Cond.instantiable RX6 6 ∈ gw := List.mem_filter.mpr ⟨List.mem_append_right _ (by decide +kernel), by decide +kernel⟩
theorem kI7 : Cond.instantiable RX7 10 ∈ gw := List.mem_filter.mpr ⟨List.mem_append_right _ (by decide +kernel), by decide +kernel⟩
theorem kI8 : Cond.instantiable RX8 12 ∈ gw := List.mem_filter.mpr ⟨List.mem_append_right _ (by decide +kernel), by decide +kernel⟩
theorem kI9 : Cond.instantiable RX9 1 ∈ gw := List.mem_filter.mpr ⟨List.mem_append_right _ (by decide +kernel), by decide +kernel⟩
theorem kI10 : Cond.instantiable RX10 16 ∈ gw := List.mem_filter.mpr ⟨List.mem_append_right _ (by decide +kernel), by decide +kernel⟩
theorem kI11 : Cond.instantiable RX11 74 ∈ gw := List.mem_filter.mpr ⟨List.mem_append_right _ (by decide +kernel), by decide +kernel⟩
theorem mtT {w : Cond} (h : w ∈ tables_1) : w ∈ lw_tbl := List.mem_append_right _ h
theorem law_k1 {s : State} {args : Array Value} {ty : FieldType} (h : (Cond.arrayClass ty).before args s = true) : ∃ cA, ArrOfT s cA ty ∧ s.vm.findClass ("[" ++ ty.toString) = some cA := by
  obtain ⟨cA, k, comp, h1, h2, h3⟩ := Cond.arrayClass_spec h
  exact ⟨cA, fun n z => ⟨fun k h => (by cases h), k, h2, comp, h3⟩, h1⟩
theorem law_k2 {s : State} {C : String} (h : va_AO C s) : ∃ cA, ArrOfT s cA (.object C) ∧ va_RA s cA (.object C) := by
  obtain ⟨comp, cA, k, h1, h2, h3, h4, h5⟩ := Cond.arrayOver_spec h
  exact ⟨cA, fun n z => ⟨fun k h => (by cases h), k, h3, comp, h4⟩, k, comp, h3, h4, h1, h5⟩
theorem law_k3 {s : State} {t : FieldType} (h : va_AOA t s) : ∃ cA, ArrOfT s cA (.array t) ∧ s.vm.findClass ("[" ++ (FieldType.array t).toString) = some cA := by
  obtain ⟨comp, cA, k, h1, h2, h3, h4, h5⟩ := va_AOA.spec h
  exact ⟨cA, fun n z => ⟨fun k h => (by cases h), k, h3, comp, h4⟩, h5⟩
def kTys : Nat → FieldType := fun k => match k with
  | 0 => .int
  | 1 => .long
  | 2 => .char
  | 3 => .boolean
  | 4 => .object "StairGang$State"
  | 5 => .object "StairGang$Said"
  | _ => .array .int
theorem law_ka {s : State} {args : Array Value} (hts : ∀ w ∈ lw_tbl, w.before args s = true) : ∃ aC : Nat → ClassId, ∀ (k : Nat) (q : ClassId × FieldType), (aTys aC)[k]? = some q → ArrOfT s q.1 q.2 ∧ va_RA s q.1 q.2 := by
  have h : ∀ k : Nat, ∃ cA, ArrOfT s cA (kTys k) ∧ va_RA s cA (kTys k) := by
    intro k
    match k with
    | 0 => exact law_k1 (ty := .int) (hts _ (mtT (by decide +kernel)))
    | 1 => exact law_k1 (ty := .long) (hts _ (mtT (by decide +kernel)))
    | 2 => exact law_k1 (ty := .char) (hts _ (mtT (by decide +kernel)))
    | 3 => exact law_k1 (ty := .boolean) (hts _ (mtT (by decide +kernel)))
    | 4 => exact law_k2 (C := "StairGang$State") (va_AO.of (hts (.arrayOver (.object "StairGang$State")) (mtT (by decide +kernel))))
    | 5 => exact law_k2 (C := "StairGang$Said") (va_AO.of (hts (.arrayOver (.object "StairGang$Said")) (mtT (by decide +kernel))))
    | k + 6 => exact law_k3 (t := .int) (va_AOA.of (hts (.arrayOver (.array .int)) (mtT (by decide +kernel))))
  refine ⟨fun k => (h k).choose, ?_⟩
  intro k q hq
  have h9 := (h k).choose_spec
  match k, hq, h9 with
  | 0, hq, h9 => cases hq; exact h9
  | 1, hq, h9 => cases hq; exact h9
  | 2, hq, h9 => cases hq; exact h9
  | 3, hq, h9 => cases hq; exact h9
  | 4, hq, h9 => cases hq; exact h9
  | 5, hq, h9 => cases hq; exact h9
  | 6, hq, h9 => cases hq; exact h9
  | k + 7, hq, h9 => simp [aTys] at hq
theorem law_kn {s : State} {args : Array Value} (hts : ∀ w ∈ gw, w.before args s = true) : ∃ g : va_G, ∀ (k : Nat) (q : vw_C), vwCl[k]? = some q → u_Kn s q.1 q.2.1 q.2.2 (g.1 k) (g.2 k) := by
  have h : ∀ k : Nat, ∃ (cC : ClassId) (iS : Nat → Nat), ∀ q : vw_C, vwCl[k]? = some q → u_Kn s q.1 q.2.1 q.2.2 cC iS := by
    intro k
    match k with
    | 0 => obtain ⟨c, i, h⟩ := u_known (C := RX0) (T := TX0) (N := 2) (n := 2) hts inX0 (hts _ kI0); exact ⟨c, i, fun q hq => by cases hq; exact h⟩
    | 1 => obtain ⟨c, i, h⟩ := u_known (C := RX1) (T := TX1) (N := 3) (n := 3) hts inX1 (hts _ kI1); exact ⟨c, i, fun q hq => by cases hq; exact h⟩
    | 2 => obtain ⟨c, i, h⟩ := u_known (C := RX2) (T := TX2) (N := 3) (n := 3) hts inX2 (hts _ kI2); exact ⟨c, i, fun q hq => by cases hq; exact h⟩
    | 3 => obtain ⟨c, i, h⟩ := u_known (C := RX3) (T := TX3) (N := 5) (n := 5) hts inX3 (hts _ kI3); exact ⟨c, i, fun q hq => by cases hq; exact h⟩
    | 4 => obtain ⟨c, i, h⟩ := u_known (C := RX4) (T := TX4) (N := 3) (n := 3) hts inX4 (hts _ kI4); exact ⟨c, i, fun q hq => by cases hq; exact h⟩
    | 5 => obtain ⟨c, i, h⟩ := u_known (C := RX5) (T := TX5) (N := 5) (n := 5) hts inX5 (hts _ kI5); exact ⟨c, i, fun q hq => by cases hq; exact h⟩
    | 6 => obtain ⟨c, i, h⟩ := u_known (C := RX6) (T := TX6) (N := 6) (n := 6) hts inX6 (hts _ kI6); exact ⟨c, i, fun q hq => by cases hq; exact h⟩
    | 7 => obtain ⟨c, i, h⟩ := u_known (C := RX7) (T := TX7) (N := 10) (n := 10) hts inX7 (hts _ kI7); exact ⟨c, i, fun q hq => by cases hq; exact h⟩
    | 8 => obtain ⟨c, i, h⟩ := u_known (C := RX8) (T := TX8) (N := 12) (n := 12) hts inX8 (hts _ kI8); exact ⟨c, i, fun q hq => by cases hq; exact h⟩
    | 9 => obtain ⟨c, i, h⟩ := u_known (C := RX9) (T := TX9) (N := 1) (n := 1) hts inX9 (hts _ kI9); exact ⟨c, i, fun q hq => by cases hq; exact h⟩
    | 10 => obtain ⟨c, i, h⟩ := u_known (C := RX10) (T := TX10) (N := 16) (n := 16) hts inX10 (hts _ kI10); exact ⟨c, i, fun q hq => by cases hq; exact h⟩
    | 11 => obtain ⟨c, i, h⟩ := u_known (C := RX11) (T := TX11) (N := 74) (n := 74) hts inX11 (hts _ kI11); exact ⟨c, i, fun q hq => by cases hq; exact h⟩
    | k + 12 => exact ⟨0, fun _ => 0, fun q hq => by simp [vwCl] at hq⟩
  exact ⟨(fun k => (h k).choose, fun k => (h k).choose_spec.choose), fun k q hq => (h k).choose_spec.choose_spec q hq⟩
def nrw : List Cond := flatC (Jvm.Cond.and given_1 narrow_1)
theorem ns_most : ∀ j, j < 5 → Cond.eq (.elem (.static "StairGang" "MOST" "[I") (.int (Int32.ofNat j))) (.int (moF j)) ∈ nrw := by decide +kernel
theorem ns_ex : ∀ i, i < 6 → Cond.exactly (.string (stO i) (stI i)) "java/lang/String" ∈ nrw := by decide +kernel
theorem ns_co : ∀ i, i < 6 → Cond.eq (.field (.string (stO i) (stI i)) "java/lang/String" "coder" "B") (.int 0) ∈ nrw := by decide +kernel
theorem ns_ar : ∀ i, i < 6 → Cond.arrayOf (.field (.string (stO i) (stI i)) "java/lang/String" "value" "[B") .byte ∈ nrw := by decide +kernel
theorem ns_le : ∀ i, i < 6 → Cond.eq (.length (.field (.string (stO i) (stI i)) "java/lang/String" "value" "[B")) (.int (Int32.ofNat (stL.getD i 0))) ∈ nrw := by decide +kernel
def stP : List Nat := [63, 164, 207, 230, 245, 285]
theorem ns_blk : ∀ i, i < 6 → (nrw.drop (stP.getD i 0)).take (stL.getD i 0) = (List.range (stL.getD i 0)).map (fun j => Cond.eq (.elem (.field (.string (stO i) (stI i)) "java/lang/String" "value" "[B") (.int (Int32.ofNat j))) (.int ((stB.getD i []).getD j 0))) := by decide +kernel
theorem ns_el (i : Nat) (hi : i < 6) (j : Nat) (hj : j < stL.getD i 0) : Cond.eq (.elem (.field (.string (stO i) (stI i)) "java/lang/String" "value" "[B") (.int (Int32.ofNat j))) (.int ((stB.getD i []).getD j 0)) ∈ nrw := by
  have h : Cond.eq (.elem (.field (.string (stO i) (stI i)) "java/lang/String" "value" "[B") (.int (Int32.ofNat j))) (.int ((stB.getD i []).getD j 0)) ∈ (List.range (stL.getD i 0)).map (fun j => Cond.eq (.elem (.field (.string (stO i) (stI i)) "java/lang/String" "value" "[B") (.int (Int32.ofNat j))) (.int ((stB.getD i []).getD j 0))) := List.mem_map.mpr ⟨j, List.mem_range.mpr hj, rfl⟩
  rw [← ns_blk i hi] at h
  exact List.mem_of_mem_drop (List.mem_of_mem_take h)
theorem ns_ne : ∀ i, i < 6 → ∀ j, j < 6 → i ≠ j → Cond.not (Cond.eq (.string (stO i) (stI i)) (.string (stO j) (stI j))) ∈ nrw ∨ Cond.not (Cond.eq (.string (stO j) (stI j)) (.string (stO i) (stI i))) ∈ nrw := by decide +kernel
theorem ns_sr : ∀ i, i < 6 → Cond.stringRef (stO i) (stI i) (stT i) ∈ tables_1 := by decide +kernel
theorem ns_M : ∀ q ∈ nsM, Cond.methodLinkNest q.1 q.2.1 q.2.2 "StairGang" ∈ tables_1 := by decide +kernel
theorem ns_F : ∀ q ∈ nsF, Cond.fieldLinkNest q.1 q.2 "StairGang" "MOST" "[I" "StairGang" ∈ tables_1 := by decide +kernel
set_option maxHeartbeats 4000000 in
theorem law_am {s : State} {args : Array Value} (hts : ∀ w ∈ lw_tbl, w.before args s = true) (hgv : (Jvm.Cond.and given_1 narrow_1).before args s = true) {A : Nat → Prop} (hA : ∀ a : Nat, a < s.heap.size → ¬ A a) : ∃ aM : Nat → Nat, Amb aM A s s.heap ∧ Am2 aM s := by
  have hs : ∀ w ∈ nrw, w.before args s = true := flat_of_before _ hgv
  obtain ⟨t, ht, hT⟩ := va_Tof (tm := .static "StairGang" "MOST" "[I") (ty := .int) (N := 5) (f := fun j => .int (moF j)) (A := A) (by decide) (hs _ (by decide +kernel)) (va_eqt (hs (.eq (.length (.static "StairGang" "MOST" "[I")) (.int 5)) (by decide +kernel))) (fun j hj => va_eqt (hs _ (ns_most j hj))) hA
  obtain ⟨adK, adV, hV, hev⟩ := vk_Sof (args := args) (s := s) (N := 6) (tm := fun i => .string (stO i) (stI i)) (len := stL) (byt := stB) (A := A) (by decide) (fun i hi => hs _ (ns_ex i hi)) (fun i hi => hs _ (ns_co i hi)) (fun i hi => hs _ (ns_ar i hi)) (fun i hi => hs _ (ns_le i hi)) (fun i hi j hj => hs _ (ns_el i hi j hj)) (fun i j hi hj hij => (ns_ne i hi j hj hij).imp (hs _) (hs _)) hA
  let aM : Nat → Nat := fun k => if k = 0 then t else if k < 7 then adK (k - 1) else adV (k - 7)
  have e1 : ∀ i, i < 6 → aM (1 + i) = adK i := by
    intro i hi
    show (if 1 + i = 0 then t else if 1 + i < 7 then adK (1 + i - 1) else adV (1 + i - 7)) = adK i
    rw [if_neg (by omega), if_pos (by omega)]
    congr 1; omega
  have e2 : ∀ i, i < 6 → aM (7 + i) = adV i := by
    intro i hi
    show (if 7 + i = 0 then t else if 7 + i < 7 then adK (7 + i - 1) else adV (7 + i - 7)) = adV i
    rw [if_neg (by omega), if_neg (by omega)]
    congr 1; omega
  refine ⟨aM, ⟨va_Zof (hts (.laysStatic "StairGang" "MOST" "[I") (mtT (by decide +kernel))) (hts (.initialized "StairGang") (mtT (by decide +kernel))) ht hA, hT, va_Zof (hts (.laysStatic "java/lang/String" "COMPACT_STRINGS" "Z") (mtT (by decide +kernel))) (hts (.initialized "java/lang/String") (mtT (by decide +kernel))) (va_eqi (hs _ (by decide +kernel))) hA, ?_, va_Zqof (hts (.laysStatic "jdk/internal/util/Preconditions" "SIOOBE_FORMATTER" "Ljava/util/function/BiFunction;") (mtT (by decide +kernel))) (hts (.initialized "jdk/internal/util/Preconditions") (mtT (by decide +kernel))) (hs _ (by decide +kernel)) hA⟩, fun q hq => va_Nw.of rfl (hts _ (mtT (ns_M q hq))), fun q hq => va_Nw.of rfl (hts _ (mtT (ns_F q hq))), va_AO.of (hts (.arrayOver (.object "StairGang$State")) (mtT (by decide +kernel))), va_AO.of (hts (.arrayOver (.object "StairGang$Said")) (mtT (by decide +kernel))), va_AOA.of (hts (.arrayOver (.array .int)) (mtT (by decide +kernel))), ?_⟩
  · refine ⟨fun i hi => ?_, fun i j hi hj h => ?_⟩
    · have h9 := hV.1 i hi
      dsimp only
      rw [e1 i hi, e2 i hi]
      exact h9
    · dsimp only at h
      rw [e1 i hi, e1 j hj] at h
      exact hV.2 i j hi hj h
  · intro i hi
    rw [e1 i hi]
    exact vk_R.of (hts _ (mtT (ns_sr i hi))) (hev i hi)
theorem law_ax {s : State} {args : Array Value} (hts : ∀ w ∈ lw_tbl, w.before args s = true) (hgv : (Jvm.Cond.and given_1 narrow_1).before args s = true) {A : Nat → Prop} (hA : ∀ a : Nat, a < s.heap.size → ¬ A a) : AmX A s s.heap ∧ AmB s := by
  have hs : ∀ w ∈ nrw, w.before args s = true := flat_of_before _ hgv
  exact ⟨⟨vx_Zqof (hts (.laysStatic Bundle.tN "UNASSIGNED_STACK" Bundle.steD) (mtT (by decide +kernel))) (hts (.initialized Bundle.tN) (mtT (by decide +kernel))) (hs _ (by decide +kernel)) hA, vx_Zqof (hts (.laysStatic Bundle.tN "SUPPRESSED_SENTINEL" Bundle.listD) (mtT (by decide +kernel))) (hts (.initialized Bundle.tN) (mtT (by decide +kernel))) (hs _ (by decide +kernel)) hA⟩, fun w hw => va_Nw.of (BB_on w hw) (hts _ (mtT (BB_tb w hw)))⟩
