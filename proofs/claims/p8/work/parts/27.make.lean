set_option maxRecDepth 100000 in
theorem tb45 : (Jvm.Cond.methodLink "StairGang$Tokens" (29 : Nat) ({ cls := "java/lang/String", name := "length", desc := "()I" } : Jvm.MethodName)) ∈ gw := lw_m1 45 rfl
set_option maxRecDepth 100000 in
theorem tb55 : (Jvm.Cond.methodLink "StairGang$Tokens" (35 : Nat) ({ cls := "java/lang/String", name := "charAt", desc := "(I)C" } : Jvm.MethodName)) ∈ gw := lw_m1 55 rfl
set_option maxRecDepth 100000 in
theorem tb56 : (Jvm.Cond.instanceMethod ({ cls := "java/lang/String", name := "charAt", desc := "(I)C" } : Jvm.MethodName)) ∈ gw := lw_m1 56 rfl
set_option maxRecDepth 100000 in
theorem tb57 : (Jvm.Cond.selects "java/lang/String" ({ cls := "java/lang/String", name := "charAt", desc := "(I)C" } : Jvm.MethodName) ({ cls := "java/lang/String", name := "charAt", desc := "(I)C" } : Jvm.MethodName)) ∈ gw := lw_m1 57 rfl
set_option maxRecDepth 100000 in
theorem tb58 : (Jvm.Cond.code ({ cls := "java/lang/String", name := "charAt", desc := "(I)C" } : Jvm.MethodName) prog_22_method_56_code (2 : Nat) (Option.some Jvm.ClassFile.FieldType.char)) ∈ gw := lw_m1 58 rfl
theorem dX7_learn_0 : decode cX7_learn 0 = .ok (.iload_n 2, 1) := by decide +kernel
theorem dX7_learn_1 : decode cX7_learn 1 = .ok (.istore_n 3, 1) := by decide +kernel
theorem dX7_learn_2 : decode cX7_learn 2 = .ok (.iconst 0, 1) := by decide +kernel
theorem dX7_learn_3 : decode cX7_learn 3 = .ok (.istore 4, 2) := by decide +kernel
theorem dX7_learn_5 : decode cX7_learn 5 = .ok (.iload 4, 2) := by decide +kernel
theorem dX7_learn_7 : decode cX7_learn 7 = .ok (.aload_n 1, 1) := by decide +kernel
theorem dX7_learn_8 : decode cX7_learn 8 = .ok (.invokevirtual 29, 3) := by decide +kernel
theorem dX7_learn_11 : decode cX7_learn 11 = .ok (.if_icmp .ge 54, 3) := by decide +kernel
theorem dX7_learn_14 : decode cX7_learn 14 = .ok (.iload_n 3, 1) := by decide +kernel
theorem dX7_learn_15 : decode cX7_learn 15 = .ok (.bipush 28, 2) := by decide +kernel
theorem dX7_learn_17 : decode cX7_learn 17 = .ok (.if_icmp .ge 48, 3) := by decide +kernel
theorem dX7_learn_20 : decode cX7_learn 20 = .ok (.aload_n 1, 1) := by decide +kernel
theorem dX7_learn_21 : decode cX7_learn 21 = .ok (.iload 4, 2) := by decide +kernel
theorem dX7_learn_23 : decode cX7_learn 23 = .ok (.invokevirtual 35, 3) := by decide +kernel
theorem dX7_learn_26 : decode cX7_learn 26 = .ok (.istore 5, 2) := by decide +kernel
theorem dX7_learn_28 : decode cX7_learn 28 = .ok (.iload 5, 2) := by decide +kernel
theorem dX7_learn_30 : decode cX7_learn 30 = .ok (.invokestatic 39, 3) := by decide +kernel
theorem dX7_learn_33 : decode cX7_learn 33 = .ok (.ifCond .eq 23, 3) := by decide +kernel
theorem dX7_learn_36 : decode cX7_learn 36 = .ok (.aload_n 0, 1) := by decide +kernel
theorem dX7_learn_37 : decode cX7_learn 37 = .ok (.getfield 15, 3) := by decide +kernel
theorem dX7_learn_40 : decode cX7_learn 40 = .ok (.iload_n 3, 1) := by decide +kernel
theorem dX7_learn_41 : decode cX7_learn 41 = .ok (.aload_n 0, 1) := by decide +kernel
theorem dX7_learn_42 : decode cX7_learn 42 = .ok (.getfield 15, 3) := by decide +kernel
theorem dX7_learn_45 : decode cX7_learn 45 = .ok (.iload_n 3, 1) := by decide +kernel
theorem dX7_learn_46 : decode cX7_learn 46 = .ok (.laload, 1) := by decide +kernel
theorem dX7_learn_47 : decode cX7_learn 47 = .ok (.iload 5, 2) := by decide +kernel
theorem dX7_learn_49 : decode cX7_learn 49 = .ok (.invokestatic 43, 3) := by decide +kernel
theorem dX7_learn_52 : decode cX7_learn 52 = .ok (.lastore, 1) := by decide +kernel
theorem dX7_learn_53 : decode cX7_learn 53 = .ok (.goto 6, 3) := by decide +kernel
theorem dX7_learn_56 : decode cX7_learn 56 = .ok (.iinc 3 1, 3) := by decide +kernel
theorem dX7_learn_59 : decode cX7_learn 59 = .ok (.iinc 4 1, 3) := by decide +kernel
theorem dX7_learn_62 : decode cX7_learn 62 = .ok (.goto (-57), 3) := by decide +kernel
theorem dX7_learn_65 : decode cX7_learn 65 = .ok (.iload_n 3, 1) := by decide +kernel
theorem dX7_learn_66 : decode cX7_learn 66 = .ok (.ireturn, 1) := by decide +kernel
set_option maxHeartbeats 4000000 in
set_option maxRecDepth 100000 in
theorem k_learn0 (l : Launch) (g : va_G) (aC : Nat → ClassId) (aM : Nat → Nat) (h0 h1 : Nat) (x1 x2 x3 x4 x5 x6 x7 x8 x9 : Value) (f : Nat → Int64) (a0 : Nat) (ha0 : a0 ≤ 28) : Ct l g aC aM yX7_learn cX7_learn 6 (some .int) 5 [.ref h0, .ref (aM (1 + 0)), .int (nI a0)] [(h0, .inr (7, [x1, x2, x3, .ref h1, x4, x5, x6, x7, x8, x9])), (h1, .inl (aC 1, 28, .inr (.inl f)))] (QI g (fun (r : Int32) (u : Nat × (Nat → Int64)) => r = (nI u.1) ∧ u.1 ≤ 28 ∧ u = lnS 0 97 (a0, f)) (fun (u : Nat × (Nat → Int64)) => [(h0, .inr (7, [x1, x2, x3, .ref h1, x4, x5, x6, x7, x8, x9])), (h1, .inl (aC 1, 28, .inr (.inl u.2)))])) 0 0 := by
  refine Ct.mk (by decide) (Nat.le_of_ble_eq_true rfl) ?_
  intro p e s m below meth c A ls hx hb hml hown hts hr hlk hnm hK hA hM hM2 hP hD hS hl
  have hown : s.vm.findClass RX7 = some m.cls := hown
  have F : Fx p s m _ c cX7_learn 6 RX7 g aC aM A := ⟨hx, hb, hml, hown, hts, hK, hA, hM, hM2⟩
  have hl : lv_has ls 6 [(0, .ref h0), (1, .ref (aM (1 + 0))), (2, .int (nI a0))] := hl
  refine lv_iload_n hx hb dX7_learn_0 rfl (lv_at hl 2 rfl) ?_
  refine lv_istore_n (lv' := [(3, .int (nI a0)), (0, .ref h0), (1, .ref (aM (1 + 0))), (2, .int (nI a0))]) hx hb dX7_learn_1 rfl hl (by decide) rfl (fun ls hl => ?_)
  refine lv_iconst (v := 0) hx hb dX7_learn_2 (by decide) ?_
  refine lv_istore (lv' := [(4, .int 0), (3, .int (nI a0)), (0, .ref h0), (1, .ref (aM (1 + 0))), (2, .int (nI a0))]) hx hb dX7_learn_3 hl (by decide) rfl (fun ls hl => ?_)
  refine W.widen (k := 0) (n := 0) (Nat.le_of_ble_eq_true rfl) (Nat.le_of_ble_eq_true rfl) ?_
  have hloop5 : ∀ (n k : Nat) (at_ : Nat) (f8 : Nat → Int64) (H : Heap) (locs : List Loc) (ls : Array Slot), k + n = 97 → (at_ ≤ 28) → (at_, f8) = lnS 0 k (a0, f) → va_P g vwCl [(h0, .inr (7, [x1, x2, x3, .ref h1, x4, x5, x6, x7, x8, x9])), (h1, .inl (aC 1, 28, .inr (.inl f8)))] H → va_D A [(h0, .inr (7, [x1, x2, x3, .ref h1, x4, x5, x6, x7, x8, x9])), (h1, .inl (aC 1, 28, .inr (.inl f8)))] → va_S A s.heap H locs → lv_has ls 6 [(4, .int (nI k)), (3, .int (nI at_)), (0, .ref h0), (1, .ref (aM (1 + 0))), (2, .int (nI a0))] → W p l e (rmL 5 0 0) s m [.ref h0, .ref (aM (1 + 0)), .int (nI a0)].toArray below meth c H locs 0 0 (MQ below (QI g (fun (r : Int32) (u : Nat × (Nat → Int64)) => r = (nI u.1) ∧ u.1 ≤ 28 ∧ u = lnS 0 97 (a0, f)) (fun (u : Nat × (Nat → Int64)) => [(h0, .inr (7, [x1, x2, x3, .ref h1, x4, x5, x6, x7, x8, x9])), (h1, .inl (aC 1, 28, .inr (.inl u.2)))]) A) [.ref h0, .ref (aM (1 + 0)), .int (nI a0)].toArray s 0 0 A) (F0 m 5 ls []) := by
    intro n
    induction n with
    | zero =>
      intro k at_ f8 H locs ls hk hat hst hP hD hS hl
      obtain rfl : k = 97 := by omega
      have hl : lv_has ls 6 [(4, .int 97), (3, .int (nI at_)), (0, .ref h0), (1, .ref (aM (1 + 0))), (2, .int (nI a0))] := hl
      refine lv_iload hx hb dX7_learn_5 (lv_at hl 0 rfl) ?_
      refine lv_aload_n hx hb dX7_learn_7 rfl (lv_at hl 3 rfl) ?_
      refine goI (wr := [(h0, .inr (7, [x1, x2, x3, .ref h1, x4, x5, x6, x7, x8, x9])), (h1, .inl (aC 1, 28, .inr (.inl f8)))]) (runVs (n := 0) (As := []) (rest := [.int 97]) F hP hD hS (k_length0 l g aC aM ) [] (by decide) rfl 0 (by decide) rfl rfl tb48 tb45 tb46 tb47 tb3 ⟨by decide, by decide, by decide +kernel⟩ ⟨Nat.le_of_ble_eq_true rfl, Nat.le_of_ble_eq_true rfl⟩ rfl hl.1 rfl (Nat.le_of_ble_eq_true rfl) dX7_learn_8 ⟨Nat.le_of_ble_eq_true rfl, Nat.le_of_ble_eq_true rfl⟩) hP hD hS hA [] [0, 1] rfl rfl (by decide) (by decide) (fun r_2 w3 H locs hw hP hD hS => ?_)
      obtain ⟨hP, hD⟩ := cv_PD (L2 := [(h0, .inr (7, [x1, x2, x3, .ref h1, x4, x5, x6, x7, x8, x9])), (h1, .inl (aC 1, 28, .inr (.inl f8)))]) hP hD rfl
      try dsimp only at hw
      subst hw
      refine lv_icmp_ge (tgt := 65) hx hb dX7_learn_11 (by decide) (fun _ => ?_) (fun c_ => absurd (by decide +kernel) c_)
      refine lv_iload_n hx hb dX7_learn_65 rfl (lv_at hl 1 rfl) ?_
      have hP9 := hP.sub (ws' := [(h0, .inr (7, [x1, x2, x3, .ref h1, x4, x5, x6, x7, x8, x9])), (h1, .inl (aC 1, 28, .inr (.inl f8)))]) [0, 1] rfl
      have hD9 := hD.sub (ws' := [(h0, .inr (7, [x1, x2, x3, .ref h1, x4, x5, x6, x7, x8, x9])), (h1, .inl (aC 1, 28, .inr (.inl f8)))]) [0, 1] (by decide) rfl
      exact rI (at_, f8) hx hb hr hlk rfl hS ⟨rfl, by omega, hst⟩ hP9 hD9 (Nat.le_of_ble_eq_true rfl) (Nat.le_of_ble_eq_true rfl) dX7_learn_66
    | succ n ih =>
      intro k at_ f8 H locs ls hk hat hst hP hD hS hl
      have hk2 : k < 97 := by omega
      refine lv_iload hx hb dX7_learn_5 (lv_at hl 0 rfl) ?_
      refine lv_aload_n hx hb dX7_learn_7 rfl (lv_at hl 3 rfl) ?_
      refine goI (wr := [(h0, .inr (7, [x1, x2, x3, .ref h1, x4, x5, x6, x7, x8, x9])), (h1, .inl (aC 1, 28, .inr (.inl f8)))]) (runVs (n := 0) (As := []) (rest := [.int (nI k)]) F hP hD hS (k_length0 l g aC aM ) [] (by decide) rfl 0 (by decide) rfl rfl tb48 tb45 tb46 tb47 tb3 ⟨by decide, by decide, by decide +kernel⟩ ⟨Nat.le_of_ble_eq_true rfl, Nat.le_of_ble_eq_true rfl⟩ rfl hl.1 rfl (Nat.le_of_ble_eq_true rfl) dX7_learn_8 ⟨Nat.le_of_ble_eq_true rfl, Nat.le_of_ble_eq_true rfl⟩) hP hD hS hA [] [0, 1] rfl rfl (by decide) (by decide) (fun r_6 w7 H locs hw hP hD hS => ?_)
      obtain ⟨hP, hD⟩ := cv_PD (L2 := [(h0, .inr (7, [x1, x2, x3, .ref h1, x4, x5, x6, x7, x8, x9])), (h1, .inl (aC 1, 28, .inr (.inl f8)))]) hP hD rfl
      try dsimp only at hw
      subst hw
      refine lv_icmp_ge (tgt := 65) hx hb dX7_learn_11 (by decide) (fun c_ => absurd c_ (show ¬ (nI 97 ≤ nI k) by rw [nI_leI (by omega) (by omega)]; omega)) (fun _ => ?_)
      refine lv_iload_n hx hb dX7_learn_14 rfl (lv_at hl 1 rfl) ?_
      refine lv_bipush (v := 28) hx hb dX7_learn_15 (by decide) ?_
      refine lv_icmp_ge (tgt := 65) hx hb dX7_learn_17 (by decide) (fun c8 => ?_) (fun c8 => ?_)
      · have c8 := (nI_leI (a := 28) (b := at_) (by omega) (by omega)).mp c8
        refine lv_iload_n hx hb dX7_learn_65 rfl (lv_at hl 1 rfl) ?_
        have hP9 := hP.sub (ws' := [(h0, .inr (7, [x1, x2, x3, .ref h1, x4, x5, x6, x7, x8, x9])), (h1, .inl (aC 1, 28, .inr (.inl f8)))]) [0, 1] rfl
        have hD9 := hD.sub (ws' := [(h0, .inr (7, [x1, x2, x3, .ref h1, x4, x5, x6, x7, x8, x9])), (h1, .inl (aC 1, 28, .inr (.inl f8)))]) [0, 1] (by decide) rfl
        exact rI (at_, f8) hx hb hr hlk rfl hS ⟨rfl, by omega, ln_end (by omega) (by omega) hst⟩ hP9 hD9 (Nat.le_of_ble_eq_true rfl) (Nat.le_of_ble_eq_true rfl) dX7_learn_66
      · have c8 := mt (nI_leI (a := 28) (b := at_) (by omega) (by omega)).mpr c8
        refine lv_aload_n hx hb dX7_learn_20 rfl (lv_at hl 3 rfl) ?_
        refine lv_iload hx hb dX7_learn_21 (lv_at hl 0 rfl) ?_
        refine goI (wr := [(h0, .inr (7, [x1, x2, x3, .ref h1, x4, x5, x6, x7, x8, x9])), (h1, .inl (aC 1, 28, .inr (.inl f8)))]) (runVs (n := 1) (As := [.int (nI k)]) (rest := []) F hP hD hS (k_charAt0 l g aC aM k (by omega)) [] (by decide) rfl 0 (by decide) rfl rfl tb58 tb55 tb56 tb57 tb3 ⟨by decide, by decide, by decide +kernel⟩ ⟨Nat.le_of_ble_eq_true rfl, Nat.le_of_ble_eq_true rfl⟩ rfl hl.1 rfl (Nat.le_of_ble_eq_true rfl) dX7_learn_23 ⟨Nat.le_of_ble_eq_true rfl, Nat.le_of_ble_eq_true rfl⟩) hP hD hS hA [] [0, 1] rfl rfl (by decide) (by decide) (fun r_10 w11 H locs hw hP hD hS => ?_)
        have hch : r_10 = sgn 0 k := hw
        obtain ⟨hP, hD⟩ := cv_PD (L2 := [(h0, .inr (7, [x1, x2, x3, .ref h1, x4, x5, x6, x7, x8, x9])), (h1, .inl (aC 1, 28, .inr (.inl f8)))]) hP hD rfl
        refine lv_istore (lv' := [(5, .int r_10), (4, .int (nI k)), (3, .int (nI at_)), (0, .ref h0), (1, .ref (aM (1 + 0))), (2, .int (nI a0))]) hx hb dX7_learn_26 hl (by decide) rfl (fun ls hl => ?_)
        refine lv_iload hx hb dX7_learn_28 (lv_at hl 0 rfl) ?_
        refine goI (wr := [(h0, .inr (7, [x1, x2, x3, .ref h1, x4, x5, x6, x7, x8, x9])), (h1, .inl (aC 1, 28, .inr (.inl f8)))]) (runS (n := 1) (As := [.int r_10]) (rest := []) F hP hD hS (k_isLetter l g aC aM r_10) [] (by decide) rfl tb95 tb93 tb94 tb2 ⟨by decide, by decide, by decide +kernel⟩ ⟨Nat.le_of_ble_eq_true rfl, Nat.le_of_ble_eq_true rfl⟩ rfl hl.1 rfl (Nat.le_of_ble_eq_true rfl) dX7_learn_30 ⟨Nat.le_of_ble_eq_true rfl, Nat.le_of_ble_eq_true rfl⟩) hP hD hS hA [] [0, 1] rfl rfl (by decide) (by decide) (fun r_13 w14 H locs hw hP hD hS => ?_)
        have hil : r_13 = (if lnD r_10 = true then (1 : Int32) else 0) := hw
        obtain ⟨hP, hD⟩ := cv_PD (L2 := [(h0, .inr (7, [x1, x2, x3, .ref h1, x4, x5, x6, x7, x8, x9])), (h1, .inl (aC 1, 28, .inr (.inl f8)))]) hP hD rfl
        refine lv_if_eq (tgt := 56) hx hb dX7_learn_33 (by decide) (fun c15 => ?_) (fun c15 => ?_)
        · subst c15
          refine lv_iinc (v := (nI (at_ + 1))) (lv' := [(3, .int (nI (at_ + 1))), (5, .int r_10), (4, .int (nI k)), (0, .ref h0), (1, .ref (aM (1 + 0))), (2, .int (nI a0))]) hx hb dX7_learn_56 hl (k := 2) rfl (ninc 1 (by omega)) (by decide) rfl (fun ls hl => ?_)
          refine lv_iinc (v := (nI (k + 1))) (lv' := [(4, .int (nI (k + 1))), (3, .int (nI (at_ + 1))), (5, .int r_10), (0, .ref h0), (1, .ref (aM (1 + 0))), (2, .int (nI a0))]) hx hb dX7_learn_59 hl (k := 2) rfl (ninc 1 (by omega)) (by decide) rfl (fun ls hl => ?_)
          refine lv_goto (tgt := 5) hx hb dX7_learn_62 (by decide) ?_
          exact ih (k + 1) (at_ + 1) f8 _ _ _ (by omega) (by omega) (ln_skip hst c8 (by rw [← hch]; exact ln_f hil)) (hP.sub [0, 1] rfl) (hD.sub [0, 1] (by decide) rfl) hS (lv_sub hl [0, 1, 3, 4, 5] rfl)
        · refine lv_aload_n hx hb dX7_learn_36 rfl (lv_at hl 3 rfl) ?_
          refine xget F hP 0 rfl rfl inX7 3 (by decide) tb107 rfl dX7_learn_37 ?_
          refine lv_iload_n hx hb dX7_learn_40 rfl (lv_at hl 2 rfl) ?_
          refine lv_aload_n hx hb dX7_learn_41 rfl (lv_at hl 3 rfl) ?_
          refine xget F hP 0 rfl rfl inX7 3 (by decide) tb107 rfl dX7_learn_42 ?_
          refine lv_iload_n hx hb dX7_learn_45 rfl (lv_at hl 2 rfl) ?_
          refine xllo (v := (f8 at_)) F hP 1 rfl at_ (nI_pos (by omega)) (nI_clamp (by omega)) (by omega) rfl dX7_learn_46 ?_
          refine lv_iload hx hb dX7_learn_47 (lv_at hl 0 rfl) ?_
          refine goL (wr := [(h0, .inr (7, [x1, x2, x3, .ref h1, x4, x5, x6, x7, x8, x9])), (h1, .inl (aC 1, 28, .inr (.inl f8)))]) (runS (n := 2) (As := [.long (f8 at_), .int r_10]) (rest := [.int (nI at_), .ref h1]) F hP hD hS (k_withLetter l g aC aM (f8 at_) r_10) [] (by decide) rfl tb98 tb96 tb97 tb2 ⟨by decide, by decide, by decide +kernel⟩ ⟨Nat.le_of_ble_eq_true rfl, Nat.le_of_ble_eq_true rfl⟩ rfl hl.1 rfl (Nat.le_of_ble_eq_true rfl) dX7_learn_49 ⟨Nat.le_of_ble_eq_true rfl, Nat.le_of_ble_eq_true rfl⟩) hP hD hS hA [] [0, 1] rfl rfl (by decide) (by decide) (fun r_17 w18 H locs hw hP hD hS => ?_)
          have hwl : r_17 = lnW (f8 at_) r_10 := hw
          obtain ⟨hP, hD⟩ := cv_PD (L2 := [(h0, .inr (7, [x1, x2, x3, .ref h1, x4, x5, x6, x7, x8, x9])), (h1, .inl (aC 1, 28, .inr (.inl f8)))]) hP hD rfl
          refine xlst F hP hD hS 1 rfl at_ (nI_pos (by omega)) (nI_clamp (by omega)) (by omega) (f' := vp_updL f8 at_ r_17) rfl dX7_learn_52 (fun H locs hP hD hS => ?_)
          obtain ⟨hP, hD⟩ := cv_PD (L2 := [(h0, .inr (7, [x1, x2, x3, .ref h1, x4, x5, x6, x7, x8, x9])), (h1, .inl (aC 1, 28, .inr (.inl (vp_updL f8 at_ r_17))))]) hP hD rfl
          refine lv_goto (tgt := 59) hx hb dX7_learn_53 (by decide) ?_
          refine lv_iinc (v := (nI (k + 1))) (lv' := [(4, .int (nI (k + 1))), (5, .int r_10), (3, .int (nI at_)), (0, .ref h0), (1, .ref (aM (1 + 0))), (2, .int (nI a0))]) hx hb dX7_learn_59 hl (k := 1) rfl (ninc 1 (by omega)) (by decide) rfl (fun ls hl => ?_)
          refine lv_goto (tgt := 5) hx hb dX7_learn_62 (by decide) ?_
          exact ih (k + 1) at_ (vp_updL f8 at_ r_17) _ _ _ (by omega) (by omega) (by have := ln_put hst c8 (by rw [← hch]; exact ln_t hil c15); rw [← hch, ← hwl] at this; exact this) (hP.sub [0, 1] rfl) (hD.sub [0, 1] (by decide) rfl) hS (lv_sub hl [0, 2, 3, 4, 5] rfl)
  exact hloop5 97 0 a0 f _ _ _ (by omega) (by omega) rfl hP hD hS hl

set_option maxHeartbeats 4000000 in
set_option maxRecDepth 100000 in
theorem k_learn1 (l : Launch) (g : va_G) (aC : Nat → ClassId) (aM : Nat → Nat) (h0 h1 : Nat) (x1 x2 x3 x4 x5 x6 x7 x8 x9 : Value) (f : Nat → Int64) (a0 : Nat) (ha0 : a0 ≤ 28) : Ct l g aC aM yX7_learn cX7_learn 6 (some .int) 5 [.ref h0, .ref (aM (1 + 1)), .int (nI a0)] [(h0, .inr (7, [x1, x2, x3, .ref h1, x4, x5, x6, x7, x8, x9])), (h1, .inl (aC 1, 28, .inr (.inl f)))] (QI g (fun (r : Int32) (u : Nat × (Nat → Int64)) => r = (nI u.1) ∧ u.1 ≤ 28 ∧ u = lnS 1 38 (a0, f)) (fun (u : Nat × (Nat → Int64)) => [(h0, .inr (7, [x1, x2, x3, .ref h1, x4, x5, x6, x7, x8, x9])), (h1, .inl (aC 1, 28, .inr (.inl u.2)))])) 0 0 := by
  refine Ct.mk (by decide) (Nat.le_of_ble_eq_true rfl) ?_
  intro p e s m below meth c A ls hx hb hml hown hts hr hlk hnm hK hA hM hM2 hP hD hS hl
  have hown : s.vm.findClass RX7 = some m.cls := hown
  have F : Fx p s m _ c cX7_learn 6 RX7 g aC aM A := ⟨hx, hb, hml, hown, hts, hK, hA, hM, hM2⟩
  have hl : lv_has ls 6 [(0, .ref h0), (1, .ref (aM (1 + 1))), (2, .int (nI a0))] := hl
  refine lv_iload_n hx hb dX7_learn_0 rfl (lv_at hl 2 rfl) ?_
  refine lv_istore_n (lv' := [(3, .int (nI a0)), (0, .ref h0), (1, .ref (aM (1 + 1))), (2, .int (nI a0))]) hx hb dX7_learn_1 rfl hl (by decide) rfl (fun ls hl => ?_)
  refine lv_iconst (v := 0) hx hb dX7_learn_2 (by decide) ?_
  refine lv_istore (lv' := [(4, .int 0), (3, .int (nI a0)), (0, .ref h0), (1, .ref (aM (1 + 1))), (2, .int (nI a0))]) hx hb dX7_learn_3 hl (by decide) rfl (fun ls hl => ?_)
  refine W.widen (k := 0) (n := 0) (Nat.le_of_ble_eq_true rfl) (Nat.le_of_ble_eq_true rfl) ?_
  have hloop5 : ∀ (n k : Nat) (at_ : Nat) (f8 : Nat → Int64) (H : Heap) (locs : List Loc) (ls : Array Slot), k + n = 38 → (at_ ≤ 28) → (at_, f8) = lnS 1 k (a0, f) → va_P g vwCl [(h0, .inr (7, [x1, x2, x3, .ref h1, x4, x5, x6, x7, x8, x9])), (h1, .inl (aC 1, 28, .inr (.inl f8)))] H → va_D A [(h0, .inr (7, [x1, x2, x3, .ref h1, x4, x5, x6, x7, x8, x9])), (h1, .inl (aC 1, 28, .inr (.inl f8)))] → va_S A s.heap H locs → lv_has ls 6 [(4, .int (nI k)), (3, .int (nI at_)), (0, .ref h0), (1, .ref (aM (1 + 1))), (2, .int (nI a0))] → W p l e (rmL 5 0 0) s m [.ref h0, .ref (aM (1 + 1)), .int (nI a0)].toArray below meth c H locs 0 0 (MQ below (QI g (fun (r : Int32) (u : Nat × (Nat → Int64)) => r = (nI u.1) ∧ u.1 ≤ 28 ∧ u = lnS 1 38 (a0, f)) (fun (u : Nat × (Nat → Int64)) => [(h0, .inr (7, [x1, x2, x3, .ref h1, x4, x5, x6, x7, x8, x9])), (h1, .inl (aC 1, 28, .inr (.inl u.2)))]) A) [.ref h0, .ref (aM (1 + 1)), .int (nI a0)].toArray s 0 0 A) (F0 m 5 ls []) := by
    intro n
    induction n with
    | zero =>
      intro k at_ f8 H locs ls hk hat hst hP hD hS hl
      obtain rfl : k = 38 := by omega
      have hl : lv_has ls 6 [(4, .int 38), (3, .int (nI at_)), (0, .ref h0), (1, .ref (aM (1 + 1))), (2, .int (nI a0))] := hl
      refine lv_iload hx hb dX7_learn_5 (lv_at hl 0 rfl) ?_
      refine lv_aload_n hx hb dX7_learn_7 rfl (lv_at hl 3 rfl) ?_
      refine goI (wr := [(h0, .inr (7, [x1, x2, x3, .ref h1, x4, x5, x6, x7, x8, x9])), (h1, .inl (aC 1, 28, .inr (.inl f8)))]) (runVs (n := 0) (As := []) (rest := [.int 38]) F hP hD hS (k_length1 l g aC aM ) [] (by decide) rfl 1 (by decide) rfl rfl tb48 tb45 tb46 tb47 tb3 ⟨by decide, by decide, by decide +kernel⟩ ⟨Nat.le_of_ble_eq_true rfl, Nat.le_of_ble_eq_true rfl⟩ rfl hl.1 rfl (Nat.le_of_ble_eq_true rfl) dX7_learn_8 ⟨Nat.le_of_ble_eq_true rfl, Nat.le_of_ble_eq_true rfl⟩) hP hD hS hA [] [0, 1] rfl rfl (by decide) (by decide) (fun r_2 w3 H locs hw hP hD hS => ?_)
      obtain ⟨hP, hD⟩ := cv_PD (L2 := [(h0, .inr (7, [x1, x2, x3, .ref h1, x4, x5, x6, x7, x8, x9])), (h1, .inl (aC 1, 28, .inr (.inl f8)))]) hP hD rfl
      try dsimp only at hw
      subst hw
      refine lv_icmp_ge (tgt := 65) hx hb dX7_learn_11 (by decide) (fun _ => ?_) (fun c_ => absurd (by decide +kernel) c_)
      refine lv_iload_n hx hb dX7_learn_65 rfl (lv_at hl 1 rfl) ?_
      have hP9 := hP.sub (ws' := [(h0, .inr (7, [x1, x2, x3, .ref h1, x4, x5, x6, x7, x8, x9])), (h1, .inl (aC 1, 28, .inr (.inl f8)))]) [0, 1] rfl
      have hD9 := hD.sub (ws' := [(h0, .inr (7, [x1, x2, x3, .ref h1, x4, x5, x6, x7, x8, x9])), (h1, .inl (aC 1, 28, .inr (.inl f8)))]) [0, 1] (by decide) rfl
      exact rI (at_, f8) hx hb hr hlk rfl hS ⟨rfl, by omega, hst⟩ hP9 hD9 (Nat.le_of_ble_eq_true rfl) (Nat.le_of_ble_eq_true rfl) dX7_learn_66
    | succ n ih =>
      intro k at_ f8 H locs ls hk hat hst hP hD hS hl
      have hk2 : k < 38 := by omega
      refine lv_iload hx hb dX7_learn_5 (lv_at hl 0 rfl) ?_
      refine lv_aload_n hx hb dX7_learn_7 rfl (lv_at hl 3 rfl) ?_
      refine goI (wr := [(h0, .inr (7, [x1, x2, x3, .ref h1, x4, x5, x6, x7, x8, x9])), (h1, .inl (aC 1, 28, .inr (.inl f8)))]) (runVs (n := 0) (As := []) (rest := [.int (nI k)]) F hP hD hS (k_length1 l g aC aM ) [] (by decide) rfl 1 (by decide) rfl rfl tb48 tb45 tb46 tb47 tb3 ⟨by decide, by decide, by decide +kernel⟩ ⟨Nat.le_of_ble_eq_true rfl, Nat.le_of_ble_eq_true rfl⟩ rfl hl.1 rfl (Nat.le_of_ble_eq_true rfl) dX7_learn_8 ⟨Nat.le_of_ble_eq_true rfl, Nat.le_of_ble_eq_true rfl⟩) hP hD hS hA [] [0, 1] rfl rfl (by decide) (by decide) (fun r_6 w7 H locs hw hP hD hS => ?_)
      obtain ⟨hP, hD⟩ := cv_PD (L2 := [(h0, .inr (7, [x1, x2, x3, .ref h1, x4, x5, x6, x7, x8, x9])), (h1, .inl (aC 1, 28, .inr (.inl f8)))]) hP hD rfl
      try dsimp only at hw
      subst hw
      refine lv_icmp_ge (tgt := 65) hx hb dX7_learn_11 (by decide) (fun c_ => absurd c_ (show ¬ (nI 38 ≤ nI k) by rw [nI_leI (by omega) (by omega)]; omega)) (fun _ => ?_)
      refine lv_iload_n hx hb dX7_learn_14 rfl (lv_at hl 1 rfl) ?_
      refine lv_bipush (v := 28) hx hb dX7_learn_15 (by decide) ?_
      refine lv_icmp_ge (tgt := 65) hx hb dX7_learn_17 (by decide) (fun c8 => ?_) (fun c8 => ?_)
      · have c8 := (nI_leI (a := 28) (b := at_) (by omega) (by omega)).mp c8
        refine lv_iload_n hx hb dX7_learn_65 rfl (lv_at hl 1 rfl) ?_
        have hP9 := hP.sub (ws' := [(h0, .inr (7, [x1, x2, x3, .ref h1, x4, x5, x6, x7, x8, x9])), (h1, .inl (aC 1, 28, .inr (.inl f8)))]) [0, 1] rfl
        have hD9 := hD.sub (ws' := [(h0, .inr (7, [x1, x2, x3, .ref h1, x4, x5, x6, x7, x8, x9])), (h1, .inl (aC 1, 28, .inr (.inl f8)))]) [0, 1] (by decide) rfl
        exact rI (at_, f8) hx hb hr hlk rfl hS ⟨rfl, by omega, ln_end (by omega) (by omega) hst⟩ hP9 hD9 (Nat.le_of_ble_eq_true rfl) (Nat.le_of_ble_eq_true rfl) dX7_learn_66
      · have c8 := mt (nI_leI (a := 28) (b := at_) (by omega) (by omega)).mpr c8
        refine lv_aload_n hx hb dX7_learn_20 rfl (lv_at hl 3 rfl) ?_
        refine lv_iload hx hb dX7_learn_21 (lv_at hl 0 rfl) ?_
        refine goI (wr := [(h0, .inr (7, [x1, x2, x3, .ref h1, x4, x5, x6, x7, x8, x9])), (h1, .inl (aC 1, 28, .inr (.inl f8)))]) (runVs (n := 1) (As := [.int (nI k)]) (rest := []) F hP hD hS (k_charAt1 l g aC aM k (by omega)) [] (by decide) rfl 1 (by decide) rfl rfl tb58 tb55 tb56 tb57 tb3 ⟨by decide, by decide, by decide +kernel⟩ ⟨Nat.le_of_ble_eq_true rfl, Nat.le_of_ble_eq_true rfl⟩ rfl hl.1 rfl (Nat.le_of_ble_eq_true rfl) dX7_learn_23 ⟨Nat.le_of_ble_eq_true rfl, Nat.le_of_ble_eq_true rfl⟩) hP hD hS hA [] [0, 1] rfl rfl (by decide) (by decide) (fun r_10 w11 H locs hw hP hD hS => ?_)
        have hch : r_10 = sgn 1 k := hw
        obtain ⟨hP, hD⟩ := cv_PD (L2 := [(h0, .inr (7, [x1, x2, x3, .ref h1, x4, x5, x6, x7, x8, x9])), (h1, .inl (aC 1, 28, .inr (.inl f8)))]) hP hD rfl
        refine lv_istore (lv' := [(5, .int r_10), (4, .int (nI k)), (3, .int (nI at_)), (0, .ref h0), (1, .ref (aM (1 + 1))), (2, .int (nI a0))]) hx hb dX7_learn_26 hl (by decide) rfl (fun ls hl => ?_)
        refine lv_iload hx hb dX7_learn_28 (lv_at hl 0 rfl) ?_
        refine goI (wr := [(h0, .inr (7, [x1, x2, x3, .ref h1, x4, x5, x6, x7, x8, x9])), (h1, .inl (aC 1, 28, .inr (.inl f8)))]) (runS (n := 1) (As := [.int r_10]) (rest := []) F hP hD hS (k_isLetter l g aC aM r_10) [] (by decide) rfl tb95 tb93 tb94 tb2 ⟨by decide, by decide, by decide +kernel⟩ ⟨Nat.le_of_ble_eq_true rfl, Nat.le_of_ble_eq_true rfl⟩ rfl hl.1 rfl (Nat.le_of_ble_eq_true rfl) dX7_learn_30 ⟨Nat.le_of_ble_eq_true rfl, Nat.le_of_ble_eq_true rfl⟩) hP hD hS hA [] [0, 1] rfl rfl (by decide) (by decide) (fun r_13 w14 H locs hw hP hD hS => ?_)
        have hil : r_13 = (if lnD r_10 = true then (1 : Int32) else 0) := hw
        obtain ⟨hP, hD⟩ := cv_PD (L2 := [(h0, .inr (7, [x1, x2, x3, .ref h1, x4, x5, x6, x7, x8, x9])), (h1, .inl (aC 1, 28, .inr (.inl f8)))]) hP hD rfl
        refine lv_if_eq (tgt := 56) hx hb dX7_learn_33 (by decide) (fun c15 => ?_) (fun c15 => ?_)
        · subst c15
          refine lv_iinc (v := (nI (at_ + 1))) (lv' := [(3, .int (nI (at_ + 1))), (5, .int r_10), (4, .int (nI k)), (0, .ref h0), (1, .ref (aM (1 + 1))), (2, .int (nI a0))]) hx hb dX7_learn_56 hl (k := 2) rfl (ninc 1 (by omega)) (by decide) rfl (fun ls hl => ?_)
          refine lv_iinc (v := (nI (k + 1))) (lv' := [(4, .int (nI (k + 1))), (3, .int (nI (at_ + 1))), (5, .int r_10), (0, .ref h0), (1, .ref (aM (1 + 1))), (2, .int (nI a0))]) hx hb dX7_learn_59 hl (k := 2) rfl (ninc 1 (by omega)) (by decide) rfl (fun ls hl => ?_)
          refine lv_goto (tgt := 5) hx hb dX7_learn_62 (by decide) ?_
          exact ih (k + 1) (at_ + 1) f8 _ _ _ (by omega) (by omega) (ln_skip hst c8 (by rw [← hch]; exact ln_f hil)) (hP.sub [0, 1] rfl) (hD.sub [0, 1] (by decide) rfl) hS (lv_sub hl [0, 1, 3, 4, 5] rfl)
        · refine lv_aload_n hx hb dX7_learn_36 rfl (lv_at hl 3 rfl) ?_
          refine xget F hP 0 rfl rfl inX7 3 (by decide) tb107 rfl dX7_learn_37 ?_
          refine lv_iload_n hx hb dX7_learn_40 rfl (lv_at hl 2 rfl) ?_
          refine lv_aload_n hx hb dX7_learn_41 rfl (lv_at hl 3 rfl) ?_
          refine xget F hP 0 rfl rfl inX7 3 (by decide) tb107 rfl dX7_learn_42 ?_
          refine lv_iload_n hx hb dX7_learn_45 rfl (lv_at hl 2 rfl) ?_
          refine xllo (v := (f8 at_)) F hP 1 rfl at_ (nI_pos (by omega)) (nI_clamp (by omega)) (by omega) rfl dX7_learn_46 ?_
          refine lv_iload hx hb dX7_learn_47 (lv_at hl 0 rfl) ?_
          refine goL (wr := [(h0, .inr (7, [x1, x2, x3, .ref h1, x4, x5, x6, x7, x8, x9])), (h1, .inl (aC 1, 28, .inr (.inl f8)))]) (runS (n := 2) (As := [.long (f8 at_), .int r_10]) (rest := [.int (nI at_), .ref h1]) F hP hD hS (k_withLetter l g aC aM (f8 at_) r_10) [] (by decide) rfl tb98 tb96 tb97 tb2 ⟨by decide, by decide, by decide +kernel⟩ ⟨Nat.le_of_ble_eq_true rfl, Nat.le_of_ble_eq_true rfl⟩ rfl hl.1 rfl (Nat.le_of_ble_eq_true rfl) dX7_learn_49 ⟨Nat.le_of_ble_eq_true rfl, Nat.le_of_ble_eq_true rfl⟩) hP hD hS hA [] [0, 1] rfl rfl (by decide) (by decide) (fun r_17 w18 H locs hw hP hD hS => ?_)
          have hwl : r_17 = lnW (f8 at_) r_10 := hw
          obtain ⟨hP, hD⟩ := cv_PD (L2 := [(h0, .inr (7, [x1, x2, x3, .ref h1, x4, x5, x6, x7, x8, x9])), (h1, .inl (aC 1, 28, .inr (.inl f8)))]) hP hD rfl
          refine xlst F hP hD hS 1 rfl at_ (nI_pos (by omega)) (nI_clamp (by omega)) (by omega) (f' := vp_updL f8 at_ r_17) rfl dX7_learn_52 (fun H locs hP hD hS => ?_)
          obtain ⟨hP, hD⟩ := cv_PD (L2 := [(h0, .inr (7, [x1, x2, x3, .ref h1, x4, x5, x6, x7, x8, x9])), (h1, .inl (aC 1, 28, .inr (.inl (vp_updL f8 at_ r_17))))]) hP hD rfl
          refine lv_goto (tgt := 59) hx hb dX7_learn_53 (by decide) ?_
          refine lv_iinc (v := (nI (k + 1))) (lv' := [(4, .int (nI (k + 1))), (5, .int r_10), (3, .int (nI at_)), (0, .ref h0), (1, .ref (aM (1 + 1))), (2, .int (nI a0))]) hx hb dX7_learn_59 hl (k := 1) rfl (ninc 1 (by omega)) (by decide) rfl (fun ls hl => ?_)
          refine lv_goto (tgt := 5) hx hb dX7_learn_62 (by decide) ?_
          exact ih (k + 1) at_ (vp_updL f8 at_ r_17) _ _ _ (by omega) (by omega) (by have := ln_put hst c8 (by rw [← hch]; exact ln_t hil c15); rw [← hch, ← hwl] at this; exact this) (hP.sub [0, 1] rfl) (hD.sub [0, 1] (by decide) rfl) hS (lv_sub hl [0, 2, 3, 4, 5] rfl)
  exact hloop5 38 0 a0 f _ _ _ (by omega) (by omega) rfl hP hD hS hl

set_option maxHeartbeats 4000000 in
set_option maxRecDepth 100000 in
theorem k_learn2 (l : Launch) (g : va_G) (aC : Nat → ClassId) (aM : Nat → Nat) (h0 h1 : Nat) (x1 x2 x3 x4 x5 x6 x7 x8 x9 : Value) (f : Nat → Int64) (a0 : Nat) (ha0 : a0 ≤ 28) : Ct l g aC aM yX7_learn cX7_learn 6 (some .int) 5 [.ref h0, .ref (aM (1 + 2)), .int (nI a0)] [(h0, .inr (7, [x1, x2, x3, .ref h1, x4, x5, x6, x7, x8, x9])), (h1, .inl (aC 1, 28, .inr (.inl f)))] (QI g (fun (r : Int32) (u : Nat × (Nat → Int64)) => r = (nI u.1) ∧ u.1 ≤ 28 ∧ u = lnS 2 17 (a0, f)) (fun (u : Nat × (Nat → Int64)) => [(h0, .inr (7, [x1, x2, x3, .ref h1, x4, x5, x6, x7, x8, x9])), (h1, .inl (aC 1, 28, .inr (.inl u.2)))])) 0 0 := by
  refine Ct.mk (by decide) (Nat.le_of_ble_eq_true rfl) ?_
  intro p e s m below meth c A ls hx hb hml hown hts hr hlk hnm hK hA hM hM2 hP hD hS hl
  have hown : s.vm.findClass RX7 = some m.cls := hown
  have F : Fx p s m _ c cX7_learn 6 RX7 g aC aM A := ⟨hx, hb, hml, hown, hts, hK, hA, hM, hM2⟩
  have hl : lv_has ls 6 [(0, .ref h0), (1, .ref (aM (1 + 2))), (2, .int (nI a0))] := hl
  refine lv_iload_n hx hb dX7_learn_0 rfl (lv_at hl 2 rfl) ?_
  refine lv_istore_n (lv' := [(3, .int (nI a0)), (0, .ref h0), (1, .ref (aM (1 + 2))), (2, .int (nI a0))]) hx hb dX7_learn_1 rfl hl (by decide) rfl (fun ls hl => ?_)
  refine lv_iconst (v := 0) hx hb dX7_learn_2 (by decide) ?_
  refine lv_istore (lv' := [(4, .int 0), (3, .int (nI a0)), (0, .ref h0), (1, .ref (aM (1 + 2))), (2, .int (nI a0))]) hx hb dX7_learn_3 hl (by decide) rfl (fun ls hl => ?_)
  refine W.widen (k := 0) (n := 0) (Nat.le_of_ble_eq_true rfl) (Nat.le_of_ble_eq_true rfl) ?_
  have hloop5 : ∀ (n k : Nat) (at_ : Nat) (f8 : Nat → Int64) (H : Heap) (locs : List Loc) (ls : Array Slot), k + n = 17 → (at_ ≤ 28) → (at_, f8) = lnS 2 k (a0, f) → va_P g vwCl [(h0, .inr (7, [x1, x2, x3, .ref h1, x4, x5, x6, x7, x8, x9])), (h1, .inl (aC 1, 28, .inr (.inl f8)))] H → va_D A [(h0, .inr (7, [x1, x2, x3, .ref h1, x4, x5, x6, x7, x8, x9])), (h1, .inl (aC 1, 28, .inr (.inl f8)))] → va_S A s.heap H locs → lv_has ls 6 [(4, .int (nI k)), (3, .int (nI at_)), (0, .ref h0), (1, .ref (aM (1 + 2))), (2, .int (nI a0))] → W p l e (rmL 5 0 0) s m [.ref h0, .ref (aM (1 + 2)), .int (nI a0)].toArray below meth c H locs 0 0 (MQ below (QI g (fun (r : Int32) (u : Nat × (Nat → Int64)) => r = (nI u.1) ∧ u.1 ≤ 28 ∧ u = lnS 2 17 (a0, f)) (fun (u : Nat × (Nat → Int64)) => [(h0, .inr (7, [x1, x2, x3, .ref h1, x4, x5, x6, x7, x8, x9])), (h1, .inl (aC 1, 28, .inr (.inl u.2)))]) A) [.ref h0, .ref (aM (1 + 2)), .int (nI a0)].toArray s 0 0 A) (F0 m 5 ls []) := by
    intro n
    induction n with
    | zero =>
      intro k at_ f8 H locs ls hk hat hst hP hD hS hl
      obtain rfl : k = 17 := by omega
      have hl : lv_has ls 6 [(4, .int 17), (3, .int (nI at_)), (0, .ref h0), (1, .ref (aM (1 + 2))), (2, .int (nI a0))] := hl
      refine lv_iload hx hb dX7_learn_5 (lv_at hl 0 rfl) ?_
      refine lv_aload_n hx hb dX7_learn_7 rfl (lv_at hl 3 rfl) ?_
      refine goI (wr := [(h0, .inr (7, [x1, x2, x3, .ref h1, x4, x5, x6, x7, x8, x9])), (h1, .inl (aC 1, 28, .inr (.inl f8)))]) (runVs (n := 0) (As := []) (rest := [.int 17]) F hP hD hS (k_length2 l g aC aM ) [] (by decide) rfl 2 (by decide) rfl rfl tb48 tb45 tb46 tb47 tb3 ⟨by decide, by decide, by decide +kernel⟩ ⟨Nat.le_of_ble_eq_true rfl, Nat.le_of_ble_eq_true rfl⟩ rfl hl.1 rfl (Nat.le_of_ble_eq_true rfl) dX7_learn_8 ⟨Nat.le_of_ble_eq_true rfl, Nat.le_of_ble_eq_true rfl⟩) hP hD hS hA [] [0, 1] rfl rfl (by decide) (by decide) (fun r_2 w3 H locs hw hP hD hS => ?_)
      obtain ⟨hP, hD⟩ := cv_PD (L2 := [(h0, .inr (7, [x1, x2, x3, .ref h1, x4, x5, x6, x7, x8, x9])), (h1, .inl (aC 1, 28, .inr (.inl f8)))]) hP hD rfl
      try dsimp only at hw
      subst hw
      refine lv_icmp_ge (tgt := 65) hx hb dX7_learn_11 (by decide) (fun _ => ?_) (fun c_ => absurd (by decide +kernel) c_)
      refine lv_iload_n hx hb dX7_learn_65 rfl (lv_at hl 1 rfl) ?_
      have hP9 := hP.sub (ws' := [(h0, .inr (7, [x1, x2, x3, .ref h1, x4, x5, x6, x7, x8, x9])), (h1, .inl (aC 1, 28, .inr (.inl f8)))]) [0, 1] rfl
      have hD9 := hD.sub (ws' := [(h0, .inr (7, [x1, x2, x3, .ref h1, x4, x5, x6, x7, x8, x9])), (h1, .inl (aC 1, 28, .inr (.inl f8)))]) [0, 1] (by decide) rfl
      exact rI (at_, f8) hx hb hr hlk rfl hS ⟨rfl, by omega, hst⟩ hP9 hD9 (Nat.le_of_ble_eq_true rfl) (Nat.le_of_ble_eq_true rfl) dX7_learn_66
    | succ n ih =>
      intro k at_ f8 H locs ls hk hat hst hP hD hS hl
      have hk2 : k < 17 := by omega
      refine lv_iload hx hb dX7_learn_5 (lv_at hl 0 rfl) ?_
      refine lv_aload_n hx hb dX7_learn_7 rfl (lv_at hl 3 rfl) ?_
      refine goI (wr := [(h0, .inr (7, [x1, x2, x3, .ref h1, x4, x5, x6, x7, x8, x9])), (h1, .inl (aC 1, 28, .inr (.inl f8)))]) (runVs (n := 0) (As := []) (rest := [.int (nI k)]) F hP hD hS (k_length2 l g aC aM ) [] (by decide) rfl 2 (by decide) rfl rfl tb48 tb45 tb46 tb47 tb3 ⟨by decide, by decide, by decide +kernel⟩ ⟨Nat.le_of_ble_eq_true rfl, Nat.le_of_ble_eq_true rfl⟩ rfl hl.1 rfl (Nat.le_of_ble_eq_true rfl) dX7_learn_8 ⟨Nat.le_of_ble_eq_true rfl, Nat.le_of_ble_eq_true rfl⟩) hP hD hS hA [] [0, 1] rfl rfl (by decide) (by decide) (fun r_6 w7 H locs hw hP hD hS => ?_)
      obtain ⟨hP, hD⟩ := cv_PD (L2 := [(h0, .inr (7, [x1, x2, x3, .ref h1, x4, x5, x6, x7, x8, x9])), (h1, .inl (aC 1, 28, .inr (.inl f8)))]) hP hD rfl
      try dsimp only at hw
      subst hw
      refine lv_icmp_ge (tgt := 65) hx hb dX7_learn_11 (by decide) (fun c_ => absurd c_ (show ¬ (nI 17 ≤ nI k) by rw [nI_leI (by omega) (by omega)]; omega)) (fun _ => ?_)
      refine lv_iload_n hx hb dX7_learn_14 rfl (lv_at hl 1 rfl) ?_
      refine lv_bipush (v := 28) hx hb dX7_learn_15 (by decide) ?_
      refine lv_icmp_ge (tgt := 65) hx hb dX7_learn_17 (by decide) (fun c8 => ?_) (fun c8 => ?_)
      · have c8 := (nI_leI (a := 28) (b := at_) (by omega) (by omega)).mp c8
        refine lv_iload_n hx hb dX7_learn_65 rfl (lv_at hl 1 rfl) ?_
        have hP9 := hP.sub (ws' := [(h0, .inr (7, [x1, x2, x3, .ref h1, x4, x5, x6, x7, x8, x9])), (h1, .inl (aC 1, 28, .inr (.inl f8)))]) [0, 1] rfl
        have hD9 := hD.sub (ws' := [(h0, .inr (7, [x1, x2, x3, .ref h1, x4, x5, x6, x7, x8, x9])), (h1, .inl (aC 1, 28, .inr (.inl f8)))]) [0, 1] (by decide) rfl
        exact rI (at_, f8) hx hb hr hlk rfl hS ⟨rfl, by omega, ln_end (by omega) (by omega) hst⟩ hP9 hD9 (Nat.le_of_ble_eq_true rfl) (Nat.le_of_ble_eq_true rfl) dX7_learn_66
      · have c8 := mt (nI_leI (a := 28) (b := at_) (by omega) (by omega)).mpr c8
        refine lv_aload_n hx hb dX7_learn_20 rfl (lv_at hl 3 rfl) ?_
        refine lv_iload hx hb dX7_learn_21 (lv_at hl 0 rfl) ?_
        refine goI (wr := [(h0, .inr (7, [x1, x2, x3, .ref h1, x4, x5, x6, x7, x8, x9])), (h1, .inl (aC 1, 28, .inr (.inl f8)))]) (runVs (n := 1) (As := [.int (nI k)]) (rest := []) F hP hD hS (k_charAt2 l g aC aM k (by omega)) [] (by decide) rfl 2 (by decide) rfl rfl tb58 tb55 tb56 tb57 tb3 ⟨by decide, by decide, by decide +kernel⟩ ⟨Nat.le_of_ble_eq_true rfl, Nat.le_of_ble_eq_true rfl⟩ rfl hl.1 rfl (Nat.le_of_ble_eq_true rfl) dX7_learn_23 ⟨Nat.le_of_ble_eq_true rfl, Nat.le_of_ble_eq_true rfl⟩) hP hD hS hA [] [0, 1] rfl rfl (by decide) (by decide) (fun r_10 w11 H locs hw hP hD hS => ?_)
        have hch : r_10 = sgn 2 k := hw
        obtain ⟨hP, hD⟩ := cv_PD (L2 := [(h0, .inr (7, [x1, x2, x3, .ref h1, x4, x5, x6, x7, x8, x9])), (h1, .inl (aC 1, 28, .inr (.inl f8)))]) hP hD rfl
        refine lv_istore (lv' := [(5, .int r_10), (4, .int (nI k)), (3, .int (nI at_)), (0, .ref h0), (1, .ref (aM (1 + 2))), (2, .int (nI a0))]) hx hb dX7_learn_26 hl (by decide) rfl (fun ls hl => ?_)
        refine lv_iload hx hb dX7_learn_28 (lv_at hl 0 rfl) ?_
        refine goI (wr := [(h0, .inr (7, [x1, x2, x3, .ref h1, x4, x5, x6, x7, x8, x9])), (h1, .inl (aC 1, 28, .inr (.inl f8)))]) (runS (n := 1) (As := [.int r_10]) (rest := []) F hP hD hS (k_isLetter l g aC aM r_10) [] (by decide) rfl tb95 tb93 tb94 tb2 ⟨by decide, by decide, by decide +kernel⟩ ⟨Nat.le_of_ble_eq_true rfl, Nat.le_of_ble_eq_true rfl⟩ rfl hl.1 rfl (Nat.le_of_ble_eq_true rfl) dX7_learn_30 ⟨Nat.le_of_ble_eq_true rfl, Nat.le_of_ble_eq_true rfl⟩) hP hD hS hA [] [0, 1] rfl rfl (by decide) (by decide) (fun r_13 w14 H locs hw hP hD hS => ?_)
        have hil : r_13 = (if lnD r_10 = true then (1 : Int32) else 0) := hw
        obtain ⟨hP, hD⟩ := cv_PD (L2 := [(h0, .inr (7, [x1, x2, x3, .ref h1, x4, x5, x6, x7, x8, x9])), (h1, .inl (aC 1, 28, .inr (.inl f8)))]) hP hD rfl
        refine lv_if_eq (tgt := 56) hx hb dX7_learn_33 (by decide) (fun c15 => ?_) (fun c15 => ?_)
        · subst c15
          refine lv_iinc (v := (nI (at_ + 1))) (lv' := [(3, .int (nI (at_ + 1))), (5, .int r_10), (4, .int (nI k)), (0, .ref h0), (1, .ref (aM (1 + 2))), (2, .int (nI a0))]) hx hb dX7_learn_56 hl (k := 2) rfl (ninc 1 (by omega)) (by decide) rfl (fun ls hl => ?_)
          refine lv_iinc (v := (nI (k + 1))) (lv' := [(4, .int (nI (k + 1))), (3, .int (nI (at_ + 1))), (5, .int r_10), (0, .ref h0), (1, .ref (aM (1 + 2))), (2, .int (nI a0))]) hx hb dX7_learn_59 hl (k := 2) rfl (ninc 1 (by omega)) (by decide) rfl (fun ls hl => ?_)
          refine lv_goto (tgt := 5) hx hb dX7_learn_62 (by decide) ?_
          exact ih (k + 1) (at_ + 1) f8 _ _ _ (by omega) (by omega) (ln_skip hst c8 (by rw [← hch]; exact ln_f hil)) (hP.sub [0, 1] rfl) (hD.sub [0, 1] (by decide) rfl) hS (lv_sub hl [0, 1, 3, 4, 5] rfl)
        · refine lv_aload_n hx hb dX7_learn_36 rfl (lv_at hl 3 rfl) ?_
          refine xget F hP 0 rfl rfl inX7 3 (by decide) tb107 rfl dX7_learn_37 ?_
          refine lv_iload_n hx hb dX7_learn_40 rfl (lv_at hl 2 rfl) ?_
          refine lv_aload_n hx hb dX7_learn_41 rfl (lv_at hl 3 rfl) ?_
          refine xget F hP 0 rfl rfl inX7 3 (by decide) tb107 rfl dX7_learn_42 ?_
          refine lv_iload_n hx hb dX7_learn_45 rfl (lv_at hl 2 rfl) ?_
          refine xllo (v := (f8 at_)) F hP 1 rfl at_ (nI_pos (by omega)) (nI_clamp (by omega)) (by omega) rfl dX7_learn_46 ?_
          refine lv_iload hx hb dX7_learn_47 (lv_at hl 0 rfl) ?_
          refine goL (wr := [(h0, .inr (7, [x1, x2, x3, .ref h1, x4, x5, x6, x7, x8, x9])), (h1, .inl (aC 1, 28, .inr (.inl f8)))]) (runS (n := 2) (As := [.long (f8 at_), .int r_10]) (rest := [.int (nI at_), .ref h1]) F hP hD hS (k_withLetter l g aC aM (f8 at_) r_10) [] (by decide) rfl tb98 tb96 tb97 tb2 ⟨by decide, by decide, by decide +kernel⟩ ⟨Nat.le_of_ble_eq_true rfl, Nat.le_of_ble_eq_true rfl⟩ rfl hl.1 rfl (Nat.le_of_ble_eq_true rfl) dX7_learn_49 ⟨Nat.le_of_ble_eq_true rfl, Nat.le_of_ble_eq_true rfl⟩) hP hD hS hA [] [0, 1] rfl rfl (by decide) (by decide) (fun r_17 w18 H locs hw hP hD hS => ?_)
          have hwl : r_17 = lnW (f8 at_) r_10 := hw
          obtain ⟨hP, hD⟩ := cv_PD (L2 := [(h0, .inr (7, [x1, x2, x3, .ref h1, x4, x5, x6, x7, x8, x9])), (h1, .inl (aC 1, 28, .inr (.inl f8)))]) hP hD rfl
          refine xlst F hP hD hS 1 rfl at_ (nI_pos (by omega)) (nI_clamp (by omega)) (by omega) (f' := vp_updL f8 at_ r_17) rfl dX7_learn_52 (fun H locs hP hD hS => ?_)
          obtain ⟨hP, hD⟩ := cv_PD (L2 := [(h0, .inr (7, [x1, x2, x3, .ref h1, x4, x5, x6, x7, x8, x9])), (h1, .inl (aC 1, 28, .inr (.inl (vp_updL f8 at_ r_17))))]) hP hD rfl
          refine lv_goto (tgt := 59) hx hb dX7_learn_53 (by decide) ?_
          refine lv_iinc (v := (nI (k + 1))) (lv' := [(4, .int (nI (k + 1))), (5, .int r_10), (3, .int (nI at_)), (0, .ref h0), (1, .ref (aM (1 + 2))), (2, .int (nI a0))]) hx hb dX7_learn_59 hl (k := 1) rfl (ninc 1 (by omega)) (by decide) rfl (fun ls hl => ?_)
          refine lv_goto (tgt := 5) hx hb dX7_learn_62 (by decide) ?_
          exact ih (k + 1) at_ (vp_updL f8 at_ r_17) _ _ _ (by omega) (by omega) (by have := ln_put hst c8 (by rw [← hch]; exact ln_t hil c15); rw [← hch, ← hwl] at this; exact this) (hP.sub [0, 1] rfl) (hD.sub [0, 1] (by decide) rfl) hS (lv_sub hl [0, 2, 3, 4, 5] rfl)
  exact hloop5 17 0 a0 f _ _ _ (by omega) (by omega) rfl hP hD hS hl

set_option maxRecDepth 100000 in
theorem tb39 : (Jvm.Cond.methodLink "StairGang$Tokens" (3 : Nat) ({ cls := "java/lang/Object", name := "<init>", desc := "()V" } : Jvm.MethodName)) ∈ gw := lw_m1 39 rfl
set_option maxRecDepth 100000 in
theorem tb41 : (Jvm.Cond.methodLink "StairGang$Tokens" (21 : Nat) ({ cls := "StairGang$Tokens", name := "learn", desc := "(Ljava/lang/String;I)I" } : Jvm.MethodName)) ∈ gw := lw_m1 41 rfl
set_option maxRecDepth 100000 in
theorem tb135 : (Jvm.Cond.arrayClass Jvm.ClassFile.FieldType.char) ∈ gw := lw_m1 135 rfl
theorem dX7_init_0 : decode cX7_init 0 = .ok (.aload_n 0, 1) := by decide +kernel
theorem dX7_init_1 : decode cX7_init 1 = .ok (.invokespecial 3, 3) := by decide +kernel
theorem dX7_init_4 : decode cX7_init 4 = .ok (.aload_n 0, 1) := by decide +kernel
theorem dX7_init_5 : decode cX7_init 5 = .ok (.sipush 1000, 3) := by decide +kernel
theorem dX7_init_8 : decode cX7_init 8 = .ok (.newarray .char, 2) := by decide +kernel
theorem dX7_init_10 : decode cX7_init 10 = .ok (.putfield 9, 3) := by decide +kernel
theorem dX7_init_13 : decode cX7_init 13 = .ok (.aload_n 0, 1) := by decide +kernel
theorem dX7_init_14 : decode cX7_init 14 = .ok (.bipush 28, 2) := by decide +kernel
theorem dX7_init_16 : decode cX7_init 16 = .ok (.newarray .long, 2) := by decide +kernel
theorem dX7_init_18 : decode cX7_init 18 = .ok (.putfield 15, 3) := by decide +kernel
theorem dX7_init_21 : decode cX7_init 21 = .ok (.aload_n 0, 1) := by decide +kernel
theorem dX7_init_22 : decode cX7_init 22 = .ok (.ldc 19, 2) := by decide +kernel
theorem dX7_init_24 : decode cX7_init 24 = .ok (.iconst 0, 1) := by decide +kernel
theorem dX7_init_25 : decode cX7_init 25 = .ok (.invokevirtual 21, 3) := by decide +kernel
theorem dX7_init_28 : decode cX7_init 28 = .ok (.istore_n 1, 1) := by decide +kernel
theorem dX7_init_29 : decode cX7_init 29 = .ok (.aload_n 0, 1) := by decide +kernel
theorem dX7_init_30 : decode cX7_init 30 = .ok (.ldc 25, 2) := by decide +kernel
theorem dX7_init_32 : decode cX7_init 32 = .ok (.iload_n 1, 1) := by decide +kernel
theorem dX7_init_33 : decode cX7_init 33 = .ok (.invokevirtual 21, 3) := by decide +kernel
theorem dX7_init_36 : decode cX7_init 36 = .ok (.istore_n 1, 1) := by decide +kernel
theorem dX7_init_37 : decode cX7_init 37 = .ok (.aload_n 0, 1) := by decide +kernel
theorem dX7_init_38 : decode cX7_init 38 = .ok (.ldc 27, 2) := by decide +kernel
theorem dX7_init_40 : decode cX7_init 40 = .ok (.iload_n 1, 1) := by decide +kernel
theorem dX7_init_41 : decode cX7_init 41 = .ok (.invokevirtual 21, 3) := by decide +kernel
theorem dX7_init_44 : decode cX7_init 44 = .ok (.pop, 1) := by decide +kernel
theorem dX7_init_45 : decode cX7_init 45 = .ok (.return_, 1) := by decide +kernel
set_option maxHeartbeats 4000000 in
set_option maxRecDepth 100000 in
theorem k_Tokens_init (l : Launch) (g : va_G) (aC : Nat → ClassId) (aM : Nat → Nat) (h0 : Nat) : Ct l g aC aM yX7_init cX7_init 2 none 6 [.ref h0] [(h0, .inr (7, [.int 0, .int 0, .null, .null, .int 0, .int 0, .int 0, .long 0, .int 0, .int 0]))] (QV g (fun (u : Nat × Nat × (Nat → Int64)) => u.2.2 = fkT) (fun (u : Nat × Nat × (Nat → Int64)) => [(h0, .inr (7, [.int 0, .int 0, .ref u.1, .ref u.2.1, .int 0, .int 0, .int 0, .long 0, .int 0, .int 0])), (u.1, .inl (aC 2, 1000, .inl (fun _ => 0))), (u.2.1, .inl (aC 1, 28, .inr (.inl u.2.2)))])) 2 1028 := by
  refine Ct.mk (by decide) (Nat.le_of_ble_eq_true rfl) ?_
  intro p e s m below meth c A ls hx hb hml hown hts hr hlk hnm hK hA hM hM2 hP hD hS hl
  have hown : s.vm.findClass RX7 = some m.cls := hown
  have F : Fx p s m _ c cX7_init 2 RX7 g aC aM A := ⟨hx, hb, hml, hown, hts, hK, hA, hM, hM2⟩
  have hl : lv_has ls 2 [(0, .ref h0)] := hl
  refine lv_aload_n hx hb dX7_init_0 rfl (lv_at hl 0 rfl) ?_
  refine xobj F tb39 tb32 tb33 hl.1 dX7_init_1 (Nat.le_of_ble_eq_true rfl) (Nat.le_of_ble_eq_true rfl) ?_
  refine lv_aload_n hx hb dX7_init_4 rfl (lv_at hl 0 rfl) ?_
  refine lv_sipush (v := 1000) hx hb dX7_init_5 (by decide) ?_
  refine xnewa (atype := .char) (a0 := (1000, .inl (fun _ => 0))) (N' := 1000) F hP hD hS rfl tb135 2 rfl (fun _ => rfl) (fun _ => rfl) (by decide +kernel) (by decide +kernel) (by decide) (Nat.le_of_ble_eq_true rfl) (Nat.le_of_ble_eq_true rfl) dX7_init_8 (fun q1 H hP hD hS => ?_)
  obtain ⟨hP, hD⟩ := cv_PD (L2 := [(h0, .inr (7, [.int 0, .int 0, .null, .null, .int 0, .int 0, .int 0, .long 0, .int 0, .int 0])), (q1, .inl (aC 2, 1000, .inl (fun _ => 0)))]) hP hD rfl
  refine xputF F hP hD hS 0 rfl rfl inX7 tyX7_ok nmX7 2 (by decide) tb106 rfl hnm rfl rfl rfl (Nat.le_of_ble_eq_true rfl) dX7_init_10 (fun H locs hP hD hS => ?_)
  obtain ⟨hP, hD⟩ := cv_PD (L2 := [(h0, .inr (7, [.int 0, .int 0, .ref q1, .null, .int 0, .int 0, .int 0, .long 0, .int 0, .int 0])), (q1, .inl (aC 2, 1000, .inl (fun _ => 0)))]) hP hD rfl
  refine lv_aload_n hx hb dX7_init_13 rfl (lv_at hl 0 rfl) ?_
  refine lv_bipush (v := 28) hx hb dX7_init_14 (by decide) ?_
  refine xnewa (atype := .long) (a0 := (28, .inr (.inl (fun _ => 0)))) (N' := 28) F hP hD hS rfl tb136 1 rfl (fun _ => rfl) (fun _ => rfl) (by decide +kernel) (by decide +kernel) (by decide) (Nat.le_of_ble_eq_true rfl) (Nat.le_of_ble_eq_true rfl) dX7_init_16 (fun q2 H hP hD hS => ?_)
  obtain ⟨hP, hD⟩ := cv_PD (L2 := [(h0, .inr (7, [.int 0, .int 0, .ref q1, .null, .int 0, .int 0, .int 0, .long 0, .int 0, .int 0])), (q1, .inl (aC 2, 1000, .inl (fun _ => 0))), (q2, .inl (aC 1, 28, .inr (.inl (fun _ => 0))))]) hP hD rfl
  refine xputF F hP hD hS 0 rfl rfl inX7 tyX7_ok nmX7 3 (by decide) tb107 rfl hnm rfl rfl rfl (Nat.le_of_ble_eq_true rfl) dX7_init_18 (fun H locs hP hD hS => ?_)
  obtain ⟨hP, hD⟩ := cv_PD (L2 := [(h0, .inr (7, [.int 0, .int 0, .ref q1, .ref q2, .int 0, .int 0, .int 0, .long 0, .int 0, .int 0])), (q1, .inl (aC 2, 1000, .inl (fun _ => 0))), (q2, .inl (aC 1, 28, .inr (.inl (fun _ => 0))))]) hP hD rfl
  refine lv_aload_n hx hb dX7_init_21 rfl (lv_at hl 0 rfl) ?_
  refine va_ldcS hx hb hown (hM2.2.2.2.2.2 0 (by decide)) dX7_init_22 ?_
  refine lv_iconst (v := 0) hx hb dX7_init_24 (by decide) ?_
  refine goI (wr := [(q1, .inl (aC 2, 1000, .inl (fun _ => 0)))]) (runV (n := 2) (As := [.ref (aM (1 + 0)), .int 0]) (rest := []) F hP hD hS (k_learn0 l g aC aM h0 q2 (.int 0) (.int 0) (.ref q1) (.int 0) (.int 0) (.int 0) (.long 0) (.int 0) (.int 0) (fun _ => 0) 0 (by omega)) [0, 2] (by decide) rfl 0 7 rfl rfl rfl tb44 tb41 tb43 tv0 tb2 ⟨by decide, by decide, by decide +kernel⟩ ⟨Nat.le_of_ble_eq_true rfl, Nat.le_of_ble_eq_true rfl⟩ rfl hl.1 rfl (Nat.le_of_ble_eq_true rfl) dX7_init_25 ⟨Nat.le_of_ble_eq_true rfl, Nat.le_of_ble_eq_true rfl⟩) hP hD hS hA [0, 2] [1] rfl rfl (by decide) (by decide) (fun r_6 w7 H locs hw hP hD hS => ?_)
  obtain ⟨u3, u4⟩ := w7
  obtain ⟨hP, hD⟩ := cv_PD (L2 := [(q1, .inl (aC 2, 1000, .inl (fun _ => 0))), (h0, .inr (7, [.int 0, .int 0, .ref q1, .ref q2, .int 0, .int 0, .int 0, .long 0, .int 0, .int 0])), (q2, .inl (aC 1, 28, .inr (.inl u4)))]) hP hD rfl
  obtain ⟨hw, x8, yx8⟩ := hw
  try dsimp only at hw
  subst hw
  refine lv_istore_n (lv' := [(1, .int (nI u3)), (0, .ref h0)]) hx hb dX7_init_28 rfl hl (by decide) rfl (fun ls hl => ?_)
  refine lv_aload_n hx hb dX7_init_29 rfl (lv_at hl 1 rfl) ?_
  refine va_ldcS hx hb hown (hM2.2.2.2.2.2 1 (by decide)) dX7_init_30 ?_
  refine lv_iload_n hx hb dX7_init_32 rfl (lv_at hl 0 rfl) ?_
  refine goI (wr := [(q1, .inl (aC 2, 1000, .inl (fun _ => 0)))]) (runV (n := 2) (As := [.ref (aM (1 + 1)), .int (nI u3)]) (rest := []) F hP hD hS (k_learn1 l g aC aM h0 q2 (.int 0) (.int 0) (.ref q1) (.int 0) (.int 0) (.int 0) (.long 0) (.int 0) (.int 0) u4 u3 (by omega)) [1, 2] (by decide) rfl 1 7 rfl rfl rfl tb44 tb41 tb43 tv0 tb2 ⟨by decide, by decide, by decide +kernel⟩ ⟨Nat.le_of_ble_eq_true rfl, Nat.le_of_ble_eq_true rfl⟩ rfl hl.1 rfl (Nat.le_of_ble_eq_true rfl) dX7_init_33 ⟨Nat.le_of_ble_eq_true rfl, Nat.le_of_ble_eq_true rfl⟩) hP hD hS hA [1, 2] [0] rfl rfl (by decide) (by decide) (fun r_12 w13 H locs hw hP hD hS => ?_)
  obtain ⟨u9, u10⟩ := w13
  obtain ⟨hP, hD⟩ := cv_PD (L2 := [(q1, .inl (aC 2, 1000, .inl (fun _ => 0))), (h0, .inr (7, [.int 0, .int 0, .ref q1, .ref q2, .int 0, .int 0, .int 0, .long 0, .int 0, .int 0])), (q2, .inl (aC 1, 28, .inr (.inl u10)))]) hP hD rfl
  obtain ⟨hw, x14, yx14⟩ := hw
  try dsimp only at hw
  subst hw
  refine lv_istore_n (lv' := [(1, .int (nI u9)), (0, .ref h0)]) hx hb dX7_init_36 rfl hl (by decide) rfl (fun ls hl => ?_)
  refine lv_aload_n hx hb dX7_init_37 rfl (lv_at hl 1 rfl) ?_
  refine va_ldcS hx hb hown (hM2.2.2.2.2.2 2 (by decide)) dX7_init_38 ?_
  refine lv_iload_n hx hb dX7_init_40 rfl (lv_at hl 0 rfl) ?_
  refine goI (wr := [(q1, .inl (aC 2, 1000, .inl (fun _ => 0)))]) (runV (n := 2) (As := [.ref (aM (1 + 2)), .int (nI u9)]) (rest := []) F hP hD hS (k_learn2 l g aC aM h0 q2 (.int 0) (.int 0) (.ref q1) (.int 0) (.int 0) (.int 0) (.long 0) (.int 0) (.int 0) u10 u9 (by omega)) [1, 2] (by decide) rfl 1 7 rfl rfl rfl tb44 tb41 tb43 tv0 tb2 ⟨by decide, by decide, by decide +kernel⟩ ⟨Nat.le_of_ble_eq_true rfl, Nat.le_of_ble_eq_true rfl⟩ rfl hl.1 rfl (Nat.le_of_ble_eq_true rfl) dX7_init_41 ⟨Nat.le_of_ble_eq_true rfl, Nat.le_of_ble_eq_true rfl⟩) hP hD hS hA [1, 2] [0] rfl rfl (by decide) (by decide) (fun r_18 w19 H locs hw hP hD hS => ?_)
  obtain ⟨u15, u16⟩ := w19
  obtain ⟨hP, hD⟩ := cv_PD (L2 := [(q1, .inl (aC 2, 1000, .inl (fun _ => 0))), (h0, .inr (7, [.int 0, .int 0, .ref q1, .ref q2, .int 0, .int 0, .int 0, .long 0, .int 0, .int 0])), (q2, .inl (aC 1, 28, .inr (.inl u16)))]) hP hD rfl
  obtain ⟨hw, x20, yx20⟩ := hw
  try dsimp only at hw
  subst hw
  refine lv_pop hx hb dX7_init_44 rfl ?_
  have hP9 := hP.sub (ws' := [(h0, .inr (7, [.int 0, .int 0, .ref q1, .ref q2, .int 0, .int 0, .int 0, .long 0, .int 0, .int 0])), (q1, .inl (aC 2, 1000, .inl (fun _ => 0))), (q2, .inl (aC 1, 28, .inr (.inl u16)))]) [1, 0, 2] rfl
  have hD9 := hD.sub (ws' := [(h0, .inr (7, [.int 0, .int 0, .ref q1, .ref q2, .int 0, .int 0, .int 0, .long 0, .int 0, .int 0])), (q1, .inl (aC 2, 1000, .inl (fun _ => 0))), (q2, .inl (aC 1, 28, .inr (.inl u16)))]) [1, 0, 2] (by decide) rfl
  exact rV (q1, q2, u16) hx hb hr hlk hS (by have := congrArg Prod.snd yx20; rw [yx14, yx8] at this; exact this) hP9 hD9 (Nat.le_of_ble_eq_true rfl) (Nat.le_of_ble_eq_true rfl) dX7_init_45

theorem dX8_clear_0 : decode cX8_clear 0 = .ok (.aload_n 0, 1) := by decide +kernel
theorem dX8_clear_1 : decode cX8_clear 1 = .ok (.getfield 13, 3) := by decide +kernel
theorem dX8_clear_4 : decode cX8_clear 4 = .ok (.iconst 0, 1) := by decide +kernel
theorem dX8_clear_5 : decode cX8_clear 5 = .ok (.invokestatic 58, 3) := by decide +kernel
theorem dX8_clear_8 : decode cX8_clear 8 = .ok (.aload_n 0, 1) := by decide +kernel
theorem dX8_clear_9 : decode cX8_clear 9 = .ok (.getfield 39, 3) := by decide +kernel
theorem dX8_clear_12 : decode cX8_clear 12 = .ok (.lconst 0, 1) := by decide +kernel
theorem dX8_clear_13 : decode cX8_clear 13 = .ok (.invokestatic 64, 3) := by decide +kernel
theorem dX8_clear_16 : decode cX8_clear 16 = .ok (.aload_n 0, 1) := by decide +kernel
theorem dX8_clear_17 : decode cX8_clear 17 = .ok (.getfield 46, 3) := by decide +kernel
theorem dX8_clear_20 : decode cX8_clear 20 = .ok (.iconst (-1), 1) := by decide +kernel
theorem dX8_clear_21 : decode cX8_clear 21 = .ok (.invokestatic 58, 3) := by decide +kernel
theorem dX8_clear_24 : decode cX8_clear 24 = .ok (.aload_n 0, 1) := by decide +kernel
theorem dX8_clear_25 : decode cX8_clear 25 = .ok (.iconst (-1), 1) := by decide +kernel
theorem dX8_clear_26 : decode cX8_clear 26 = .ok (.putfield 67, 3) := by decide +kernel
theorem dX8_clear_29 : decode cX8_clear 29 = .ok (.aload_n 0, 1) := by decide +kernel
theorem dX8_clear_30 : decode cX8_clear 30 = .ok (.iconst (-1), 1) := by decide +kernel
theorem dX8_clear_31 : decode cX8_clear 31 = .ok (.putfield 71, 3) := by decide +kernel
theorem dX8_clear_34 : decode cX8_clear 34 = .ok (.aload_n 0, 1) := by decide +kernel
theorem dX8_clear_35 : decode cX8_clear 35 = .ok (.getfield 35, 3) := by decide +kernel
theorem dX8_clear_38 : decode cX8_clear 38 = .ok (.invokevirtual 74, 3) := by decide +kernel
theorem dX8_clear_41 : decode cX8_clear 41 = .ok (.return_, 1) := by decide +kernel
set_option maxHeartbeats 4000000 in
set_option maxRecDepth 100000 in
theorem k_Town_clear (l : Launch) (g : va_G) (aC : Nat → ClassId) (aM : Nat → Nat) (h0 h1 h2 h3 h4 : Nat) (x1 x2 x3 x4 x5 x6 x7 x8 : Value) (n1 n2 n3 : Int32) (f : Nat → Int32) : Ct l g aC aM yX8_clear cX8_clear 1 none 2 [.ref h0] [(h0, .inr (8, [.ref h1, x1, x2, x3, x4, .int n1, .int n2, .ref h2, .ref h3, x5, .ref h4, x6])), (h1, .inl (aC 0, 5, .inl (fun _ => 0))), (h2, .inr (4, [x7, .int n3, x8])), (h3, .inl (aC 1, 25, .inr (.inl (fun _ => 0)))), (h4, .inl (aC 0, 30, .inl f))] (QV g (fun (u : Nat → Int32) => ∀ q, q < 30 → u q = (-1 : Int32)) (fun (u : Nat → Int32) => [(h0, .inr (8, [.ref h1, x1, x2, x3, x4, .int (-1), .int (-1), .ref h2, .ref h3, x5, .ref h4, x6])), (h1, .inl (aC 0, 5, .inl (fun _ => 0))), (h2, .inr (4, [x7, .int 0, x8])), (h3, .inl (aC 1, 25, .inr (.inl (fun _ => 0)))), (h4, .inl (aC 0, 30, .inl u))])) 0 0 := by
  refine Ct.mk (by decide) (Nat.le_of_ble_eq_true rfl) ?_
  intro p e s m below meth c A ls hx hb hml hown hts hr hlk hnm hK hA hM hM2 hP hD hS hl
  have hown : s.vm.findClass RX8 = some m.cls := hown
  have F : Fx p s m _ c cX8_clear 1 RX8 g aC aM A := ⟨hx, hb, hml, hown, hts, hK, hA, hM, hM2⟩
  have hl : lv_has ls 1 [(0, .ref h0)] := hl
  refine lv_aload_n hx hb dX8_clear_0 rfl (lv_at hl 0 rfl) ?_
  refine xget F hP 0 rfl rfl inX8 0 (by decide) tb227 rfl dX8_clear_1 ?_
  refine lv_iconst (v := 0) hx hb dX8_clear_4 (by decide) ?_
  refine goV (wr := [(h0, .inr (8, [.ref h1, x1, x2, x3, x4, .int n1, .int n2, .ref h2, .ref h3, x5, .ref h4, x6])), (h2, .inr (4, [x7, .int n3, x8])), (h3, .inl (aC 1, 25, .inr (.inl (fun _ => 0)))), (h4, .inl (aC 0, 30, .inl f))]) (runS (n := 2) (As := [.ref h1, .int 0]) (rest := []) F hP hD hS (k_fill5 l g aC aM h1) [1] (by decide) rfl tb199 tb197 tb198 tb11 ⟨by decide, by decide, by decide +kernel⟩ ⟨Nat.le_of_ble_eq_true rfl, Nat.le_of_ble_eq_true rfl⟩ rfl hl.1 rfl (Nat.le_of_ble_eq_true rfl) dX8_clear_5 ⟨Nat.le_of_ble_eq_true rfl, Nat.le_of_ble_eq_true rfl⟩) hP hD hS hA [1] [0, 2, 3, 4] rfl rfl (by decide) (by decide) (fun w3 H locs hw hP hD hS => ?_)
  obtain ⟨hP, hD⟩ := cv_PD (L2 := [(h0, .inr (8, [.ref h1, x1, x2, x3, x4, .int n1, .int n2, .ref h2, .ref h3, x5, .ref h4, x6])), (h2, .inr (4, [x7, .int n3, x8])), (h3, .inl (aC 1, 25, .inr (.inl (fun _ => 0)))), (h4, .inl (aC 0, 30, .inl f)), (h1, .inl (aC 0, 5, .inl (fun _ => 0)))]) hP hD rfl
  refine lv_aload_n hx hb dX8_clear_8 rfl (lv_at hl 0 rfl) ?_
  refine xget F hP 0 rfl rfl inX8 8 (by decide) tb256 rfl dX8_clear_9 ?_
  refine lv_lconst (v := 0) hx hb dX8_clear_12 (by decide) ?_
  refine goV (wr := [(h0, .inr (8, [.ref h1, x1, x2, x3, x4, .int n1, .int n2, .ref h2, .ref h3, x5, .ref h4, x6])), (h2, .inr (4, [x7, .int n3, x8])), (h4, .inl (aC 0, 30, .inl f)), (h1, .inl (aC 0, 5, .inl (fun _ => 0)))]) (runS (n := 2) (As := [.ref h3, .long 0]) (rest := []) F hP hD hS (k_fill25 l g aC aM h3) [2] (by decide) rfl tb202 tb200 tb201 tb11 ⟨by decide, by decide, by decide +kernel⟩ ⟨Nat.le_of_ble_eq_true rfl, Nat.le_of_ble_eq_true rfl⟩ rfl hl.1 rfl (Nat.le_of_ble_eq_true rfl) dX8_clear_13 ⟨Nat.le_of_ble_eq_true rfl, Nat.le_of_ble_eq_true rfl⟩) hP hD hS hA [2] [0, 1, 3, 4] rfl rfl (by decide) (by decide) (fun w6 H locs hw hP hD hS => ?_)
  obtain ⟨hP, hD⟩ := cv_PD (L2 := [(h0, .inr (8, [.ref h1, x1, x2, x3, x4, .int n1, .int n2, .ref h2, .ref h3, x5, .ref h4, x6])), (h2, .inr (4, [x7, .int n3, x8])), (h4, .inl (aC 0, 30, .inl f)), (h1, .inl (aC 0, 5, .inl (fun _ => 0))), (h3, .inl (aC 1, 25, .inr (.inl (fun _ => 0))))]) hP hD rfl
  refine lv_aload_n hx hb dX8_clear_16 rfl (lv_at hl 0 rfl) ?_
  refine xget F hP 0 rfl rfl inX8 10 (by decide) tb258 rfl dX8_clear_17 ?_
  refine lv_iconst (v := (-1)) hx hb dX8_clear_20 (by decide) ?_
  refine goV (wr := [(h0, .inr (8, [.ref h1, x1, x2, x3, x4, .int n1, .int n2, .ref h2, .ref h3, x5, .ref h4, x6])), (h2, .inr (4, [x7, .int n3, x8])), (h1, .inl (aC 0, 5, .inl (fun _ => 0))), (h3, .inl (aC 1, 25, .inr (.inl (fun _ => 0))))]) (runS (n := 2) (As := [.ref h4, .int (-1)]) (rest := []) F hP hD hS (k_fill30 l g aC aM h4 f) [2] (by decide) rfl tb199 tb197 tb198 tb11 ⟨by decide, by decide, by decide +kernel⟩ ⟨Nat.le_of_ble_eq_true rfl, Nat.le_of_ble_eq_true rfl⟩ rfl hl.1 rfl (Nat.le_of_ble_eq_true rfl) dX8_clear_21 ⟨Nat.le_of_ble_eq_true rfl, Nat.le_of_ble_eq_true rfl⟩) hP hD hS hA [2] [0, 1, 3, 4] rfl rfl (by decide) (by decide) (fun w10 H locs hw hP hD hS => ?_)
  obtain ⟨u7, rfl⟩ : ∃ z_, z_ = w10 := ⟨_, rfl⟩
  obtain ⟨hP, hD⟩ := cv_PD (L2 := [(h0, .inr (8, [.ref h1, x1, x2, x3, x4, .int n1, .int n2, .ref h2, .ref h3, x5, .ref h4, x6])), (h2, .inr (4, [x7, .int n3, x8])), (h1, .inl (aC 0, 5, .inl (fun _ => 0))), (h3, .inl (aC 1, 25, .inr (.inl (fun _ => 0)))), (h4, .inl (aC 0, 30, .inl u7))]) hP hD rfl
  have x11 := hw
  refine lv_aload_n hx hb dX8_clear_24 rfl (lv_at hl 0 rfl) ?_
  refine lv_iconst (v := (-1)) hx hb dX8_clear_25 (by decide) ?_
  refine xput F hP hD hS 0 rfl rfl inX8 tyX8_ok nmX8 5 (by decide) tb247 rfl rfl rfl (Nat.le_of_ble_eq_true rfl) dX8_clear_26 (fun H locs hP hD hS => ?_)
  obtain ⟨hP, hD⟩ := cv_PD (L2 := [(h0, .inr (8, [.ref h1, x1, x2, x3, x4, .int (-1), .int n2, .ref h2, .ref h3, x5, .ref h4, x6])), (h2, .inr (4, [x7, .int n3, x8])), (h1, .inl (aC 0, 5, .inl (fun _ => 0))), (h3, .inl (aC 1, 25, .inr (.inl (fun _ => 0)))), (h4, .inl (aC 0, 30, .inl u7))]) hP hD rfl
  refine lv_aload_n hx hb dX8_clear_29 rfl (lv_at hl 0 rfl) ?_
  refine lv_iconst (v := (-1)) hx hb dX8_clear_30 (by decide) ?_
  refine xput F hP hD hS 0 rfl rfl inX8 tyX8_ok nmX8 6 (by decide) tb250 rfl rfl rfl (Nat.le_of_ble_eq_true rfl) dX8_clear_31 (fun H locs hP hD hS => ?_)
  obtain ⟨hP, hD⟩ := cv_PD (L2 := [(h0, .inr (8, [.ref h1, x1, x2, x3, x4, .int (-1), .int (-1), .ref h2, .ref h3, x5, .ref h4, x6])), (h2, .inr (4, [x7, .int n3, x8])), (h1, .inl (aC 0, 5, .inl (fun _ => 0))), (h3, .inl (aC 1, 25, .inr (.inl (fun _ => 0)))), (h4, .inl (aC 0, 30, .inl u7))]) hP hD rfl
  refine lv_aload_n hx hb dX8_clear_34 rfl (lv_at hl 0 rfl) ?_
  refine xget F hP 0 rfl rfl inX8 7 (by decide) tb253 rfl dX8_clear_35 ?_
  refine goV (wr := [(h0, .inr (8, [.ref h1, x1, x2, x3, x4, .int (-1), .int (-1), .ref h2, .ref h3, x5, .ref h4, x6])), (h1, .inl (aC 0, 5, .inl (fun _ => 0))), (h3, .inl (aC 1, 25, .inr (.inl (fun _ => 0)))), (h4, .inl (aC 0, 30, .inl u7))]) (runV (n := 0) (As := []) (rest := []) F hP hD hS (k_Price_clear l g aC aM h2 x7 x8 n3) [1] (by decide) rfl 1 4 rfl rfl rfl tb206 tb203 tb204 tb205 tb10 ⟨by decide, by decide, by decide +kernel⟩ ⟨Nat.le_of_ble_eq_true rfl, Nat.le_of_ble_eq_true rfl⟩ rfl hl.1 rfl (Nat.le_of_ble_eq_true rfl) dX8_clear_38 ⟨Nat.le_of_ble_eq_true rfl, Nat.le_of_ble_eq_true rfl⟩) hP hD hS hA [1] [0, 2, 3, 4] rfl rfl (by decide) (by decide) (fun w14 H locs hw hP hD hS => ?_)
  obtain ⟨hP, hD⟩ := cv_PD (L2 := [(h0, .inr (8, [.ref h1, x1, x2, x3, x4, .int (-1), .int (-1), .ref h2, .ref h3, x5, .ref h4, x6])), (h1, .inl (aC 0, 5, .inl (fun _ => 0))), (h3, .inl (aC 1, 25, .inr (.inl (fun _ => 0)))), (h4, .inl (aC 0, 30, .inl u7)), (h2, .inr (4, [x7, .int 0, x8]))]) hP hD rfl
  have hP9 := hP.sub (ws' := [(h0, .inr (8, [.ref h1, x1, x2, x3, x4, .int (-1), .int (-1), .ref h2, .ref h3, x5, .ref h4, x6])), (h1, .inl (aC 0, 5, .inl (fun _ => 0))), (h2, .inr (4, [x7, .int 0, x8])), (h3, .inl (aC 1, 25, .inr (.inl (fun _ => 0)))), (h4, .inl (aC 0, 30, .inl u7))]) [0, 1, 4, 2, 3] rfl
  have hD9 := hD.sub (ws' := [(h0, .inr (8, [.ref h1, x1, x2, x3, x4, .int (-1), .int (-1), .ref h2, .ref h3, x5, .ref h4, x6])), (h1, .inl (aC 0, 5, .inl (fun _ => 0))), (h2, .inr (4, [x7, .int 0, x8])), (h3, .inl (aC 1, 25, .inr (.inl (fun _ => 0)))), (h4, .inl (aC 0, 30, .inl u7))]) [0, 1, 4, 2, 3] (by decide) rfl
  exact rV u7 hx hb hr hlk hS x11 hP9 hD9 (Nat.le_of_ble_eq_true rfl) (Nat.le_of_ble_eq_true rfl) dX8_clear_41

theorem dX8_close_0 : decode cX8_close 0 = .ok (.aload_n 0, 1) := by decide +kernel
theorem dX8_close_1 : decode cX8_close 1 = .ok (.getfield 67, 3) := by decide +kernel
theorem dX8_close_4 : decode cX8_close 4 = .ok (.iconst (-1), 1) := by decide +kernel
theorem dX8_close_5 : decode cX8_close 5 = .ok (.if_icmp .ne 8, 3) := by decide +kernel
theorem dX8_close_8 : decode cX8_close 8 = .ok (.aload_n 0, 1) := by decide +kernel
theorem dX8_close_9 : decode cX8_close 9 = .ok (.iconst 0, 1) := by decide +kernel
theorem dX8_close_10 : decode cX8_close 10 = .ok (.putfield 67, 3) := by decide +kernel
theorem dX8_close_13 : decode cX8_close 13 = .ok (.aload_n 0, 1) := by decide +kernel
theorem dX8_close_14 : decode cX8_close 14 = .ok (.getfield 71, 3) := by decide +kernel
theorem dX8_close_17 : decode cX8_close 17 = .ok (.iconst (-1), 1) := by decide +kernel
theorem dX8_close_18 : decode cX8_close 18 = .ok (.if_icmp .ne 8, 3) := by decide +kernel
theorem dX8_close_21 : decode cX8_close 21 = .ok (.aload_n 0, 1) := by decide +kernel
theorem dX8_close_22 : decode cX8_close 22 = .ok (.iconst 5, 1) := by decide +kernel
theorem dX8_close_23 : decode cX8_close 23 = .ok (.putfield 71, 3) := by decide +kernel
theorem dX8_close_26 : decode cX8_close 26 = .ok (.aload_n 0, 1) := by decide +kernel
theorem dX8_close_27 : decode cX8_close 27 = .ok (.getfield 35, 3) := by decide +kernel
theorem dX8_close_30 : decode cX8_close 30 = .ok (.invokevirtual 75, 3) := by decide +kernel
theorem dX8_close_33 : decode cX8_close 33 = .ok (.ifCond .ne 10, 3) := by decide +kernel
theorem dX8_close_36 : decode cX8_close 36 = .ok (.aload_n 0, 1) := by decide +kernel
theorem dX8_close_37 : decode cX8_close 37 = .ok (.getfield 35, 3) := by decide +kernel
theorem dX8_close_40 : decode cX8_close 40 = .ok (.invokevirtual 79, 3) := by decide +kernel
theorem dX8_close_43 : decode cX8_close 43 = .ok (.iconst 0, 1) := by decide +kernel
theorem dX8_close_44 : decode cX8_close 44 = .ok (.istore_n 1, 1) := by decide +kernel
theorem dX8_close_45 : decode cX8_close 45 = .ok (.iload_n 1, 1) := by decide +kernel
theorem dX8_close_46 : decode cX8_close 46 = .ok (.aload_n 0, 1) := by decide +kernel
theorem dX8_close_47 : decode cX8_close 47 = .ok (.getfield 13, 3) := by decide +kernel
theorem dX8_close_50 : decode cX8_close 50 = .ok (.iconst 1, 1) := by decide +kernel
theorem dX8_close_51 : decode cX8_close 51 = .ok (.iaload, 1) := by decide +kernel
theorem dX8_close_52 : decode cX8_close 52 = .ok (.if_icmp .ge 20, 3) := by decide +kernel
theorem dX8_close_72 : decode cX8_close 72 = .ok (.return_, 1) := by decide +kernel
set_option maxHeartbeats 4000000 in
set_option maxRecDepth 100000 in
theorem k_Town_close (l : Launch) (g : va_G) (aC : Nat → ClassId) (aM : Nat → Nat) (h0 h1 h2 h3 : Nat) (x1 x2 x3 x4 x5 x6 x8 x9 x10 : Value) (f : Nat → Int32) : Ct l g aC aM yX8_close cX8_close 2 none 3 [.ref h0] [(h0, .inr (8, [.ref h1, x1, x2, x3, x4, .int (-1), .int (-1), .ref h2, x9, x5, x10, x6])), (h1, .inl (aC 0, 5, .inl (fun _ => 0))), (h2, .inr (4, [.ref h3, .int 0, x8])), (h3, .inl (aC 0, 1000, .inl f))] (QV g (fun (u : Nat → Int32) => True) (fun (u : Nat → Int32) => [(h0, .inr (8, [.ref h1, x1, x2, x3, x4, .int 0, .int 5, .ref h2, x9, x5, x10, x6])), (h1, .inl (aC 0, 5, .inl (fun _ => 0))), (h2, .inr (4, [.ref h3, .int 1, x8])), (h3, .inl (aC 0, 1000, .inl u))])) 0 0 := by
  refine Ct.mk (by decide) (Nat.le_of_ble_eq_true rfl) ?_
  intro p e s m below meth c A ls hx hb hml hown hts hr hlk hnm hK hA hM hM2 hP hD hS hl
  have hown : s.vm.findClass RX8 = some m.cls := hown
  have F : Fx p s m _ c cX8_close 2 RX8 g aC aM A := ⟨hx, hb, hml, hown, hts, hK, hA, hM, hM2⟩
  have hl : lv_has ls 2 [(0, .ref h0)] := hl
  refine lv_aload_n hx hb dX8_close_0 rfl (lv_at hl 0 rfl) ?_
  refine xget F hP 0 rfl rfl inX8 5 (by decide) tb247 rfl dX8_close_1 ?_
  refine lv_iconst (v := (-1)) hx hb dX8_close_4 (by decide) ?_
  refine lv_icmp_ne (tgt := 13) hx hb dX8_close_5 (by decide) (fun c_ => absurd (by decide +kernel) c_) (fun _ => ?_)
  refine lv_aload_n hx hb dX8_close_8 rfl (lv_at hl 0 rfl) ?_
  refine lv_iconst (v := 0) hx hb dX8_close_9 (by decide) ?_
  refine xput F hP hD hS 0 rfl rfl inX8 tyX8_ok nmX8 5 (by decide) tb247 rfl rfl rfl (Nat.le_of_ble_eq_true rfl) dX8_close_10 (fun H locs hP hD hS => ?_)
  obtain ⟨hP, hD⟩ := cv_PD (L2 := [(h0, .inr (8, [.ref h1, x1, x2, x3, x4, .int 0, .int (-1), .ref h2, x9, x5, x10, x6])), (h1, .inl (aC 0, 5, .inl (fun _ => 0))), (h2, .inr (4, [.ref h3, .int 0, x8])), (h3, .inl (aC 0, 1000, .inl f))]) hP hD rfl
  refine lv_aload_n hx hb dX8_close_13 rfl (lv_at hl 0 rfl) ?_
  refine xget F hP 0 rfl rfl inX8 6 (by decide) tb250 rfl dX8_close_14 ?_
  refine lv_iconst (v := (-1)) hx hb dX8_close_17 (by decide) ?_
  refine lv_icmp_ne (tgt := 26) hx hb dX8_close_18 (by decide) (fun c_ => absurd (by decide +kernel) c_) (fun _ => ?_)
  refine lv_aload_n hx hb dX8_close_21 rfl (lv_at hl 0 rfl) ?_
  refine lv_iconst (v := 5) hx hb dX8_close_22 (by decide) ?_
  refine xput F hP hD hS 0 rfl rfl inX8 tyX8_ok nmX8 6 (by decide) tb250 rfl rfl rfl (Nat.le_of_ble_eq_true rfl) dX8_close_23 (fun H locs hP hD hS => ?_)
  obtain ⟨hP, hD⟩ := cv_PD (L2 := [(h0, .inr (8, [.ref h1, x1, x2, x3, x4, .int 0, .int 5, .ref h2, x9, x5, x10, x6])), (h1, .inl (aC 0, 5, .inl (fun _ => 0))), (h2, .inr (4, [.ref h3, .int 0, x8])), (h3, .inl (aC 0, 1000, .inl f))]) hP hD rfl
  refine lv_aload_n hx hb dX8_close_26 rfl (lv_at hl 0 rfl) ?_
  refine xget F hP 0 rfl rfl inX8 7 (by decide) tb253 rfl dX8_close_27 ?_
  refine goI (wr := [(h0, .inr (8, [.ref h1, x1, x2, x3, x4, .int 0, .int 5, .ref h2, x9, x5, x10, x6])), (h1, .inl (aC 0, 5, .inl (fun _ => 0))), (h3, .inl (aC 0, 1000, .inl f))]) (runV (n := 0) (As := []) (rest := []) F hP hD hS (k_Price_isTold0 l g aC aM h2 (.ref h3) x8) [2] (by decide) rfl 2 4 rfl rfl rfl tb214 tb211 tb212 tb213 tb10 ⟨by decide, by decide, by decide +kernel⟩ ⟨Nat.le_of_ble_eq_true rfl, Nat.le_of_ble_eq_true rfl⟩ rfl hl.1 rfl (Nat.le_of_ble_eq_true rfl) dX8_close_30 ⟨Nat.le_of_ble_eq_true rfl, Nat.le_of_ble_eq_true rfl⟩) hP hD hS hA [2] [0, 1, 3] rfl rfl (by decide) (by decide) (fun r_4 w5 H locs hw hP hD hS => ?_)
  obtain ⟨hP, hD⟩ := cv_PD (L2 := [(h0, .inr (8, [.ref h1, x1, x2, x3, x4, .int 0, .int 5, .ref h2, x9, x5, x10, x6])), (h1, .inl (aC 0, 5, .inl (fun _ => 0))), (h3, .inl (aC 0, 1000, .inl f)), (h2, .inr (4, [.ref h3, .int 0, x8]))]) hP hD rfl
  try dsimp only at hw
  subst hw
  refine lv_if_ne (tgt := 43) hx hb dX8_close_33 (by decide) (fun c_ => absurd (by decide +kernel) c_) (fun _ => ?_)
  refine lv_aload_n hx hb dX8_close_36 rfl (lv_at hl 0 rfl) ?_
  refine xget F hP 0 rfl rfl inX8 7 (by decide) tb253 rfl dX8_close_37 ?_
  refine goV (wr := [(h0, .inr (8, [.ref h1, x1, x2, x3, x4, .int 0, .int 5, .ref h2, x9, x5, x10, x6])), (h1, .inl (aC 0, 5, .inl (fun _ => 0)))]) (runV (n := 0) (As := []) (rest := []) F hP hD hS (k_Price_beHigh l g aC aM h2 h3 x8 f) [3, 2] (by decide) rfl 3 4 rfl rfl rfl tb218 tb215 tb216 tb217 tb10 ⟨by decide, by decide, by decide +kernel⟩ ⟨Nat.le_of_ble_eq_true rfl, Nat.le_of_ble_eq_true rfl⟩ rfl hl.1 rfl (Nat.le_of_ble_eq_true rfl) dX8_close_40 ⟨Nat.le_of_ble_eq_true rfl, Nat.le_of_ble_eq_true rfl⟩) hP hD hS hA [3, 2] [0, 1] rfl rfl (by decide) (by decide) (fun w10 H locs hw hP hD hS => ?_)
  obtain ⟨u7, rfl⟩ : ∃ z_, z_ = w10 := ⟨_, rfl⟩
  obtain ⟨hP, hD⟩ := cv_PD (L2 := [(h0, .inr (8, [.ref h1, x1, x2, x3, x4, .int 0, .int 5, .ref h2, x9, x5, x10, x6])), (h1, .inl (aC 0, 5, .inl (fun _ => 0))), (h2, .inr (4, [.ref h3, .int 1, x8])), (h3, .inl (aC 0, 1000, .inl u7))]) hP hD rfl
  refine lv_iconst (v := 0) hx hb dX8_close_43 (by decide) ?_
  refine lv_istore_n (lv' := [(1, .int 0), (0, .ref h0)]) hx hb dX8_close_44 rfl hl (by decide) rfl (fun ls hl => ?_)
  refine lv_iload_n hx hb dX8_close_45 rfl (lv_at hl 0 rfl) ?_
  refine lv_aload_n hx hb dX8_close_46 rfl (lv_at hl 1 rfl) ?_
  refine xget F hP 0 rfl rfl inX8 0 (by decide) tb227 rfl dX8_close_47 ?_
  refine lv_iconst (v := 1) hx hb dX8_close_50 (by decide) ?_
  refine xilo (v := 0) F hP 1 rfl 1 (by decide +kernel) (by decide +kernel) (by decide) (by decide +kernel) dX8_close_51 ?_
  refine lv_icmp_ge (tgt := 72) hx hb dX8_close_52 (by decide) (fun _ => ?_) (fun c_ => absurd (by decide +kernel) c_)
  have hP9 := hP.sub (ws' := [(h0, .inr (8, [.ref h1, x1, x2, x3, x4, .int 0, .int 5, .ref h2, x9, x5, x10, x6])), (h1, .inl (aC 0, 5, .inl (fun _ => 0))), (h2, .inr (4, [.ref h3, .int 1, x8])), (h3, .inl (aC 0, 1000, .inl u7))]) [0, 1, 2, 3] rfl
  have hD9 := hD.sub (ws' := [(h0, .inr (8, [.ref h1, x1, x2, x3, x4, .int 0, .int 5, .ref h2, x9, x5, x10, x6])), (h1, .inl (aC 0, 5, .inl (fun _ => 0))), (h2, .inr (4, [.ref h3, .int 1, x8])), (h3, .inl (aC 0, 1000, .inl u7))]) [0, 1, 2, 3] (by decide) rfl
  exact rV u7 hx hb hr hlk hS trivial hP9 hD9 (Nat.le_of_ble_eq_true rfl) (Nat.le_of_ble_eq_true rfl) dX8_close_72

