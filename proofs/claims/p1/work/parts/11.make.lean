set_option maxHeartbeats 4000000 in
set_option maxRecDepth 100000 in
theorem k_learn0 (l : Launch) (g : va_G) (aC : Nat → ClassId) (aM : Nat → Nat) (h0 h1 : Nat) (x1 x2 x3 x4 x5 x6 x7 x8 x9 : Value) (f : Nat → Int64) (a0 : Nat) (ha0 : a0 ≤ 28) : Ct l g aC aM yX7_learn cX7_learn 6 (some .int) 5 [.ref h0, .ref (aM (1 + 0)), .int (nI a0)] [(h0, .inr (7, [x1, x2, x3, .ref h1, x4, x5, x6, x7, x8, x9])), (h1, .inl (aC 1, 28, .inr (.inl f)))] (QI g (fun (r : Int32) (u : Nat × (Nat → Int64)) => r = (nI u.1) ∧ u.1 ≤ 28) (fun (u : Nat × (Nat → Int64)) => [(h0, .inr (7, [x1, x2, x3, .ref h1, x4, x5, x6, x7, x8, x9])), (h1, .inl (aC 1, 28, .inr (.inl u.2)))])) 0 0 := by
  refine Ct.mk (by decide) (Nat.le_of_ble_eq_true rfl) ?_
  intro p e s m below meth c A ls hx hb hml hown hts hr hlk hnm hK hA hM hM2 hP hD hS hl
  have hown : s.vm.findClass RX7 = some m.cls := hown
  have F : Fx p s m _ c cX7_learn 6 RX7 g aC aM A := ⟨hx, hb, hml, hown, hts, hK, hA, hM, hM2⟩
  have hl : lv_has ls 6 [(0, .ref h0), (1, .ref (aM (1 + 0))), (2, .int (nI a0))] := hl
  refine lv_iload_n hx hb dX7_learn_0 rfl (lv_at hl 2 rfl) ?_
  refine lv_istore_n (lv' := [(3, .int (nI a0)), (0, .ref h0), (1, .ref (aM (1 + 0))), (2, .int (nI a0))]) hx hb dX7_learn_1 rfl hl (by decide) rfl (fun ls hl => ?_)
  refine lv_iconst (v := 0) hx hb dX7_learn_2 (by decide) ?_
  refine lv_istore (lv' := [(4, .int 0), (3, .int (nI a0)), (0, .ref h0), (1, .ref (aM (1 + 0))), (2, .int (nI a0))]) hx hb dX7_learn_3 hl (by decide) rfl (fun ls hl => ?_)
  refine W.widen (k := 0) (n := 0) (Nat.le_of_ble_eq_true rfl) (Nat.le_of_ble_eq_true rfl) ?_
  have hloop5 : ∀ (n k : Nat) (at_ : Nat) (f8 : Nat → Int64) (H : Heap) (locs : List Loc) (ls : Array Slot), k + n = 97 → (at_ ≤ 28) → va_P g vwCl [(h0, .inr (7, [x1, x2, x3, .ref h1, x4, x5, x6, x7, x8, x9])), (h1, .inl (aC 1, 28, .inr (.inl f8)))] H → va_D A [(h0, .inr (7, [x1, x2, x3, .ref h1, x4, x5, x6, x7, x8, x9])), (h1, .inl (aC 1, 28, .inr (.inl f8)))] → va_S A s.heap H locs → lv_has ls 6 [(4, .int (nI k)), (3, .int (nI at_)), (0, .ref h0), (1, .ref (aM (1 + 0))), (2, .int (nI a0))] → W p l e (rmL 5 0 0) s m [.ref h0, .ref (aM (1 + 0)), .int (nI a0)].toArray below meth c H locs 0 0 (MQ below (QI g (fun (r : Int32) (u : Nat × (Nat → Int64)) => r = (nI u.1) ∧ u.1 ≤ 28) (fun (u : Nat × (Nat → Int64)) => [(h0, .inr (7, [x1, x2, x3, .ref h1, x4, x5, x6, x7, x8, x9])), (h1, .inl (aC 1, 28, .inr (.inl u.2)))]) A) [.ref h0, .ref (aM (1 + 0)), .int (nI a0)].toArray s 0 0 A) (F0 m 5 ls []) := by
    intro n
    induction n with
    | zero =>
      intro k at_ f8 H locs ls hk hat hP hD hS hl
      obtain rfl : k = 97 := by omega
      have hl : lv_has ls 6 [(4, .int 97), (3, .int (nI at_)), (0, .ref h0), (1, .ref (aM (1 + 0))), (2, .int (nI a0))] := hl
      refine lv_iload hx hb dX7_learn_5 (lv_at hl 0 rfl) ?_
      refine lv_aload_n hx hb dX7_learn_7 rfl (lv_at hl 3 rfl) ?_
      refine goI (wr := [(h0, .inr (7, [x1, x2, x3, .ref h1, x4, x5, x6, x7, x8, x9])), (h1, .inl (aC 1, 28, .inr (.inl f8)))]) (runVs (n := 0) (As := []) (rest := [.int 97]) F hP hD hS (k_length0 l g aC aM ) [] (by decide) rfl 0 (by decide) rfl rfl tb48 tb45 tb46 tb47 tb3 ⟨by decide, by decide, by decide +kernel⟩ ⟨Nat.le_of_ble_eq_true rfl, Nat.le_of_ble_eq_true rfl⟩ rfl hl.1 rfl (Nat.le_of_ble_eq_true rfl) dX7_learn_8 ⟨Nat.le_of_ble_eq_true rfl, Nat.le_of_ble_eq_true rfl⟩) hP hD hS hA [] [0, 1] rfl rfl (by decide) (by decide) (fun r_109 w110 H locs hw hP hD hS => ?_)
      have hP : va_P g vwCl [(h0, .inr (7, [x1, x2, x3, .ref h1, x4, x5, x6, x7, x8, x9])), (h1, .inl (aC 1, 28, .inr (.inl f8)))] H := hP
      have hD : va_D A [(h0, .inr (7, [x1, x2, x3, .ref h1, x4, x5, x6, x7, x8, x9])), (h1, .inl (aC 1, 28, .inr (.inl f8)))] := hD
      try dsimp only at hw
      subst hw
      refine lv_icmp_ge (tgt := 65) hx hb dX7_learn_11 (by decide) (fun _ => ?_) (fun c_ => absurd (by decide +kernel) c_)
      refine lv_iload_n hx hb dX7_learn_65 rfl (lv_at hl 1 rfl) ?_
      have hP9 := hP.sub (ws' := [(h0, .inr (7, [x1, x2, x3, .ref h1, x4, x5, x6, x7, x8, x9])), (h1, .inl (aC 1, 28, .inr (.inl f8)))]) [0, 1] rfl
      have hD9 := hD.sub (ws' := [(h0, .inr (7, [x1, x2, x3, .ref h1, x4, x5, x6, x7, x8, x9])), (h1, .inl (aC 1, 28, .inr (.inl f8)))]) [0, 1] (by decide) rfl
      exact rI (at_, f8) hx hb hr hlk rfl hS ⟨rfl, (by omega)⟩ hP9 hD9 (Nat.le_of_ble_eq_true rfl) (Nat.le_of_ble_eq_true rfl) dX7_learn_66
    | succ n ih =>
      intro k at_ f8 H locs ls hk hat hP hD hS hl
      have hk2 : k < 97 := by omega
      refine lv_iload hx hb dX7_learn_5 (lv_at hl 0 rfl) ?_
      refine lv_aload_n hx hb dX7_learn_7 rfl (lv_at hl 3 rfl) ?_
      refine goI (wr := [(h0, .inr (7, [x1, x2, x3, .ref h1, x4, x5, x6, x7, x8, x9])), (h1, .inl (aC 1, 28, .inr (.inl f8)))]) (runVs (n := 0) (As := []) (rest := [.int (nI k)]) F hP hD hS (k_length0 l g aC aM ) [] (by decide) rfl 0 (by decide) rfl rfl tb48 tb45 tb46 tb47 tb3 ⟨by decide, by decide, by decide +kernel⟩ ⟨Nat.le_of_ble_eq_true rfl, Nat.le_of_ble_eq_true rfl⟩ rfl hl.1 rfl (Nat.le_of_ble_eq_true rfl) dX7_learn_8 ⟨Nat.le_of_ble_eq_true rfl, Nat.le_of_ble_eq_true rfl⟩) hP hD hS hA [] [0, 1] rfl rfl (by decide) (by decide) (fun r_113 w114 H locs hw hP hD hS => ?_)
      have hP : va_P g vwCl [(h0, .inr (7, [x1, x2, x3, .ref h1, x4, x5, x6, x7, x8, x9])), (h1, .inl (aC 1, 28, .inr (.inl f8)))] H := hP
      have hD : va_D A [(h0, .inr (7, [x1, x2, x3, .ref h1, x4, x5, x6, x7, x8, x9])), (h1, .inl (aC 1, 28, .inr (.inl f8)))] := hD
      try dsimp only at hw
      subst hw
      refine lv_icmp_ge (tgt := 65) hx hb dX7_learn_11 (by decide) (fun c_ => absurd c_ (show ¬ (nI 97 ≤ nI k) by rw [nI_leI (by omega) (by omega)]; omega)) (fun _ => ?_)
      refine lv_iload_n hx hb dX7_learn_14 rfl (lv_at hl 1 rfl) ?_
      refine lv_bipush (v := 28) hx hb dX7_learn_15 (by decide) ?_
      refine lv_icmp_ge (tgt := 65) hx hb dX7_learn_17 (by decide) (fun c115 => ?_) (fun c115 => ?_)
      · have c115 := (nI_leI (a := 28) (b := at_) (by omega) (by omega)).mp c115
        refine lv_iload_n hx hb dX7_learn_65 rfl (lv_at hl 1 rfl) ?_
        have hP9 := hP.sub (ws' := [(h0, .inr (7, [x1, x2, x3, .ref h1, x4, x5, x6, x7, x8, x9])), (h1, .inl (aC 1, 28, .inr (.inl f8)))]) [0, 1] rfl
        have hD9 := hD.sub (ws' := [(h0, .inr (7, [x1, x2, x3, .ref h1, x4, x5, x6, x7, x8, x9])), (h1, .inl (aC 1, 28, .inr (.inl f8)))]) [0, 1] (by decide) rfl
        exact rI (at_, f8) hx hb hr hlk rfl hS ⟨rfl, (by omega)⟩ hP9 hD9 (Nat.le_of_ble_eq_true rfl) (Nat.le_of_ble_eq_true rfl) dX7_learn_66
      · have c115 := mt (nI_leI (a := 28) (b := at_) (by omega) (by omega)).mpr c115
        refine lv_aload_n hx hb dX7_learn_20 rfl (lv_at hl 3 rfl) ?_
        refine lv_iload hx hb dX7_learn_21 (lv_at hl 0 rfl) ?_
        refine goI (wr := [(h0, .inr (7, [x1, x2, x3, .ref h1, x4, x5, x6, x7, x8, x9])), (h1, .inl (aC 1, 28, .inr (.inl f8)))]) (runVs (n := 1) (As := [.int (nI k)]) (rest := []) F hP hD hS (k_charAt0 l g aC aM k (by omega)) [] (by decide) rfl 0 (by decide) rfl rfl tb58 tb55 tb56 tb57 tb3 ⟨by decide, by decide, by decide +kernel⟩ ⟨Nat.le_of_ble_eq_true rfl, Nat.le_of_ble_eq_true rfl⟩ rfl hl.1 rfl (Nat.le_of_ble_eq_true rfl) dX7_learn_23 ⟨Nat.le_of_ble_eq_true rfl, Nat.le_of_ble_eq_true rfl⟩) hP hD hS hA [] [0, 1] rfl rfl (by decide) (by decide) (fun r_117 w118 H locs hw hP hD hS => ?_)
        have hP : va_P g vwCl [(h0, .inr (7, [x1, x2, x3, .ref h1, x4, x5, x6, x7, x8, x9])), (h1, .inl (aC 1, 28, .inr (.inl f8)))] H := hP
        have hD : va_D A [(h0, .inr (7, [x1, x2, x3, .ref h1, x4, x5, x6, x7, x8, x9])), (h1, .inl (aC 1, 28, .inr (.inl f8)))] := hD
        refine lv_istore (lv' := [(5, .int r_117), (4, .int (nI k)), (3, .int (nI at_)), (0, .ref h0), (1, .ref (aM (1 + 0))), (2, .int (nI a0))]) hx hb dX7_learn_26 hl (by decide) rfl (fun ls hl => ?_)
        refine lv_iload hx hb dX7_learn_28 (lv_at hl 0 rfl) ?_
        refine goI (wr := [(h0, .inr (7, [x1, x2, x3, .ref h1, x4, x5, x6, x7, x8, x9])), (h1, .inl (aC 1, 28, .inr (.inl f8)))]) (runS (n := 1) (As := [.int r_117]) (rest := []) F hP hD hS (k_isLetter l g aC aM r_117) [] (by decide) rfl tb95 tb93 tb94 tb2 ⟨by decide, by decide, by decide +kernel⟩ ⟨Nat.le_of_ble_eq_true rfl, Nat.le_of_ble_eq_true rfl⟩ rfl hl.1 rfl (Nat.le_of_ble_eq_true rfl) dX7_learn_30 ⟨Nat.le_of_ble_eq_true rfl, Nat.le_of_ble_eq_true rfl⟩) hP hD hS hA [] [0, 1] rfl rfl (by decide) (by decide) (fun r_120 w121 H locs hw hP hD hS => ?_)
        have hP : va_P g vwCl [(h0, .inr (7, [x1, x2, x3, .ref h1, x4, x5, x6, x7, x8, x9])), (h1, .inl (aC 1, 28, .inr (.inl f8)))] H := hP
        have hD : va_D A [(h0, .inr (7, [x1, x2, x3, .ref h1, x4, x5, x6, x7, x8, x9])), (h1, .inl (aC 1, 28, .inr (.inl f8)))] := hD
        refine lv_if_eq (tgt := 56) hx hb dX7_learn_33 (by decide) (fun c122 => ?_) (fun c122 => ?_)
        · subst c122
          refine lv_iinc (v := (nI (at_ + 1))) (lv' := [(3, .int (nI (at_ + 1))), (5, .int r_117), (4, .int (nI k)), (0, .ref h0), (1, .ref (aM (1 + 0))), (2, .int (nI a0))]) hx hb dX7_learn_56 hl (k := 2) rfl (ninc 1 (by omega)) (by decide) rfl (fun ls hl => ?_)
          refine lv_iinc (v := (nI (k + 1))) (lv' := [(4, .int (nI (k + 1))), (3, .int (nI (at_ + 1))), (5, .int r_117), (0, .ref h0), (1, .ref (aM (1 + 0))), (2, .int (nI a0))]) hx hb dX7_learn_59 hl (k := 2) rfl (ninc 1 (by omega)) (by decide) rfl (fun ls hl => ?_)
          refine lv_goto (tgt := 5) hx hb dX7_learn_62 (by decide) ?_
          exact ih (k + 1) (at_ + 1) f8 _ _ _ (by omega) (by omega) (hP.sub [0, 1] rfl) (hD.sub [0, 1] (by decide) rfl) hS (lv_sub hl [0, 1, 3, 4, 5] rfl)
        · refine lv_aload_n hx hb dX7_learn_36 rfl (lv_at hl 3 rfl) ?_
          refine xget F hP 0 rfl rfl inX7 3 (by decide) tb107 rfl dX7_learn_37 ?_
          refine lv_iload_n hx hb dX7_learn_40 rfl (lv_at hl 2 rfl) ?_
          refine lv_aload_n hx hb dX7_learn_41 rfl (lv_at hl 3 rfl) ?_
          refine xget F hP 0 rfl rfl inX7 3 (by decide) tb107 rfl dX7_learn_42 ?_
          refine lv_iload_n hx hb dX7_learn_45 rfl (lv_at hl 2 rfl) ?_
          refine xllo (v := (f8 at_)) F hP 1 rfl at_ (nI_pos (by omega)) (nI_clamp (by omega)) (by omega) rfl dX7_learn_46 ?_
          refine lv_iload hx hb dX7_learn_47 (lv_at hl 0 rfl) ?_
          refine goL (wr := [(h0, .inr (7, [x1, x2, x3, .ref h1, x4, x5, x6, x7, x8, x9])), (h1, .inl (aC 1, 28, .inr (.inl f8)))]) (runS (n := 2) (As := [.long (f8 at_), .int r_117]) (rest := [.int (nI at_), .ref h1]) F hP hD hS (k_withLetter l g aC aM (f8 at_) r_117) [] (by decide) rfl tb98 tb96 tb97 tb2 ⟨by decide, by decide, by decide +kernel⟩ ⟨Nat.le_of_ble_eq_true rfl, Nat.le_of_ble_eq_true rfl⟩ rfl hl.1 rfl (Nat.le_of_ble_eq_true rfl) dX7_learn_49 ⟨Nat.le_of_ble_eq_true rfl, Nat.le_of_ble_eq_true rfl⟩) hP hD hS hA [] [0, 1] rfl rfl (by decide) (by decide) (fun r_124 w125 H locs hw hP hD hS => ?_)
          have hP : va_P g vwCl [(h0, .inr (7, [x1, x2, x3, .ref h1, x4, x5, x6, x7, x8, x9])), (h1, .inl (aC 1, 28, .inr (.inl f8)))] H := hP
          have hD : va_D A [(h0, .inr (7, [x1, x2, x3, .ref h1, x4, x5, x6, x7, x8, x9])), (h1, .inl (aC 1, 28, .inr (.inl f8)))] := hD
          refine xlstE F hP hD hS 1 rfl at_ (nI_pos (by omega)) (nI_clamp (by omega)) (by omega) dX7_learn_52 (fun f_126 H locs hP hD hS => ?_)
          have hP : va_P g vwCl [(h0, .inr (7, [x1, x2, x3, .ref h1, x4, x5, x6, x7, x8, x9])), (h1, .inl (aC 1, 28, .inr (.inl f_126)))] H := hP
          have hD : va_D A [(h0, .inr (7, [x1, x2, x3, .ref h1, x4, x5, x6, x7, x8, x9])), (h1, .inl (aC 1, 28, .inr (.inl f_126)))] := hD
          refine lv_goto (tgt := 59) hx hb dX7_learn_53 (by decide) ?_
          refine lv_iinc (v := (nI (k + 1))) (lv' := [(4, .int (nI (k + 1))), (5, .int r_117), (3, .int (nI at_)), (0, .ref h0), (1, .ref (aM (1 + 0))), (2, .int (nI a0))]) hx hb dX7_learn_59 hl (k := 1) rfl (ninc 1 (by omega)) (by decide) rfl (fun ls hl => ?_)
          refine lv_goto (tgt := 5) hx hb dX7_learn_62 (by decide) ?_
          exact ih (k + 1) at_ f_126 _ _ _ (by omega) (by omega) (hP.sub [0, 1] rfl) (hD.sub [0, 1] (by decide) rfl) hS (lv_sub hl [0, 2, 3, 4, 5] rfl)
  exact hloop5 97 0 a0 f _ _ _ (by omega) (by omega) hP hD hS hl

set_option maxHeartbeats 4000000 in
set_option maxRecDepth 100000 in
theorem k_learn1 (l : Launch) (g : va_G) (aC : Nat → ClassId) (aM : Nat → Nat) (h0 h1 : Nat) (x1 x2 x3 x4 x5 x6 x7 x8 x9 : Value) (f : Nat → Int64) (a0 : Nat) (ha0 : a0 ≤ 28) : Ct l g aC aM yX7_learn cX7_learn 6 (some .int) 5 [.ref h0, .ref (aM (1 + 1)), .int (nI a0)] [(h0, .inr (7, [x1, x2, x3, .ref h1, x4, x5, x6, x7, x8, x9])), (h1, .inl (aC 1, 28, .inr (.inl f)))] (QI g (fun (r : Int32) (u : Nat × (Nat → Int64)) => r = (nI u.1) ∧ u.1 ≤ 28) (fun (u : Nat × (Nat → Int64)) => [(h0, .inr (7, [x1, x2, x3, .ref h1, x4, x5, x6, x7, x8, x9])), (h1, .inl (aC 1, 28, .inr (.inl u.2)))])) 0 0 := by
  refine Ct.mk (by decide) (Nat.le_of_ble_eq_true rfl) ?_
  intro p e s m below meth c A ls hx hb hml hown hts hr hlk hnm hK hA hM hM2 hP hD hS hl
  have hown : s.vm.findClass RX7 = some m.cls := hown
  have F : Fx p s m _ c cX7_learn 6 RX7 g aC aM A := ⟨hx, hb, hml, hown, hts, hK, hA, hM, hM2⟩
  have hl : lv_has ls 6 [(0, .ref h0), (1, .ref (aM (1 + 1))), (2, .int (nI a0))] := hl
  refine lv_iload_n hx hb dX7_learn_0 rfl (lv_at hl 2 rfl) ?_
  refine lv_istore_n (lv' := [(3, .int (nI a0)), (0, .ref h0), (1, .ref (aM (1 + 1))), (2, .int (nI a0))]) hx hb dX7_learn_1 rfl hl (by decide) rfl (fun ls hl => ?_)
  refine lv_iconst (v := 0) hx hb dX7_learn_2 (by decide) ?_
  refine lv_istore (lv' := [(4, .int 0), (3, .int (nI a0)), (0, .ref h0), (1, .ref (aM (1 + 1))), (2, .int (nI a0))]) hx hb dX7_learn_3 hl (by decide) rfl (fun ls hl => ?_)
  refine W.widen (k := 0) (n := 0) (Nat.le_of_ble_eq_true rfl) (Nat.le_of_ble_eq_true rfl) ?_
  have hloop5 : ∀ (n k : Nat) (at_ : Nat) (f8 : Nat → Int64) (H : Heap) (locs : List Loc) (ls : Array Slot), k + n = 38 → (at_ ≤ 28) → va_P g vwCl [(h0, .inr (7, [x1, x2, x3, .ref h1, x4, x5, x6, x7, x8, x9])), (h1, .inl (aC 1, 28, .inr (.inl f8)))] H → va_D A [(h0, .inr (7, [x1, x2, x3, .ref h1, x4, x5, x6, x7, x8, x9])), (h1, .inl (aC 1, 28, .inr (.inl f8)))] → va_S A s.heap H locs → lv_has ls 6 [(4, .int (nI k)), (3, .int (nI at_)), (0, .ref h0), (1, .ref (aM (1 + 1))), (2, .int (nI a0))] → W p l e (rmL 5 0 0) s m [.ref h0, .ref (aM (1 + 1)), .int (nI a0)].toArray below meth c H locs 0 0 (MQ below (QI g (fun (r : Int32) (u : Nat × (Nat → Int64)) => r = (nI u.1) ∧ u.1 ≤ 28) (fun (u : Nat × (Nat → Int64)) => [(h0, .inr (7, [x1, x2, x3, .ref h1, x4, x5, x6, x7, x8, x9])), (h1, .inl (aC 1, 28, .inr (.inl u.2)))]) A) [.ref h0, .ref (aM (1 + 1)), .int (nI a0)].toArray s 0 0 A) (F0 m 5 ls []) := by
    intro n
    induction n with
    | zero =>
      intro k at_ f8 H locs ls hk hat hP hD hS hl
      obtain rfl : k = 38 := by omega
      have hl : lv_has ls 6 [(4, .int 38), (3, .int (nI at_)), (0, .ref h0), (1, .ref (aM (1 + 1))), (2, .int (nI a0))] := hl
      refine lv_iload hx hb dX7_learn_5 (lv_at hl 0 rfl) ?_
      refine lv_aload_n hx hb dX7_learn_7 rfl (lv_at hl 3 rfl) ?_
      refine goI (wr := [(h0, .inr (7, [x1, x2, x3, .ref h1, x4, x5, x6, x7, x8, x9])), (h1, .inl (aC 1, 28, .inr (.inl f8)))]) (runVs (n := 0) (As := []) (rest := [.int 38]) F hP hD hS (k_length1 l g aC aM ) [] (by decide) rfl 1 (by decide) rfl rfl tb48 tb45 tb46 tb47 tb3 ⟨by decide, by decide, by decide +kernel⟩ ⟨Nat.le_of_ble_eq_true rfl, Nat.le_of_ble_eq_true rfl⟩ rfl hl.1 rfl (Nat.le_of_ble_eq_true rfl) dX7_learn_8 ⟨Nat.le_of_ble_eq_true rfl, Nat.le_of_ble_eq_true rfl⟩) hP hD hS hA [] [0, 1] rfl rfl (by decide) (by decide) (fun r_128 w129 H locs hw hP hD hS => ?_)
      have hP : va_P g vwCl [(h0, .inr (7, [x1, x2, x3, .ref h1, x4, x5, x6, x7, x8, x9])), (h1, .inl (aC 1, 28, .inr (.inl f8)))] H := hP
      have hD : va_D A [(h0, .inr (7, [x1, x2, x3, .ref h1, x4, x5, x6, x7, x8, x9])), (h1, .inl (aC 1, 28, .inr (.inl f8)))] := hD
      try dsimp only at hw
      subst hw
      refine lv_icmp_ge (tgt := 65) hx hb dX7_learn_11 (by decide) (fun _ => ?_) (fun c_ => absurd (by decide +kernel) c_)
      refine lv_iload_n hx hb dX7_learn_65 rfl (lv_at hl 1 rfl) ?_
      have hP9 := hP.sub (ws' := [(h0, .inr (7, [x1, x2, x3, .ref h1, x4, x5, x6, x7, x8, x9])), (h1, .inl (aC 1, 28, .inr (.inl f8)))]) [0, 1] rfl
      have hD9 := hD.sub (ws' := [(h0, .inr (7, [x1, x2, x3, .ref h1, x4, x5, x6, x7, x8, x9])), (h1, .inl (aC 1, 28, .inr (.inl f8)))]) [0, 1] (by decide) rfl
      exact rI (at_, f8) hx hb hr hlk rfl hS ⟨rfl, (by omega)⟩ hP9 hD9 (Nat.le_of_ble_eq_true rfl) (Nat.le_of_ble_eq_true rfl) dX7_learn_66
    | succ n ih =>
      intro k at_ f8 H locs ls hk hat hP hD hS hl
      have hk2 : k < 38 := by omega
      refine lv_iload hx hb dX7_learn_5 (lv_at hl 0 rfl) ?_
      refine lv_aload_n hx hb dX7_learn_7 rfl (lv_at hl 3 rfl) ?_
      refine goI (wr := [(h0, .inr (7, [x1, x2, x3, .ref h1, x4, x5, x6, x7, x8, x9])), (h1, .inl (aC 1, 28, .inr (.inl f8)))]) (runVs (n := 0) (As := []) (rest := [.int (nI k)]) F hP hD hS (k_length1 l g aC aM ) [] (by decide) rfl 1 (by decide) rfl rfl tb48 tb45 tb46 tb47 tb3 ⟨by decide, by decide, by decide +kernel⟩ ⟨Nat.le_of_ble_eq_true rfl, Nat.le_of_ble_eq_true rfl⟩ rfl hl.1 rfl (Nat.le_of_ble_eq_true rfl) dX7_learn_8 ⟨Nat.le_of_ble_eq_true rfl, Nat.le_of_ble_eq_true rfl⟩) hP hD hS hA [] [0, 1] rfl rfl (by decide) (by decide) (fun r_132 w133 H locs hw hP hD hS => ?_)
      have hP : va_P g vwCl [(h0, .inr (7, [x1, x2, x3, .ref h1, x4, x5, x6, x7, x8, x9])), (h1, .inl (aC 1, 28, .inr (.inl f8)))] H := hP
      have hD : va_D A [(h0, .inr (7, [x1, x2, x3, .ref h1, x4, x5, x6, x7, x8, x9])), (h1, .inl (aC 1, 28, .inr (.inl f8)))] := hD
      try dsimp only at hw
      subst hw
      refine lv_icmp_ge (tgt := 65) hx hb dX7_learn_11 (by decide) (fun c_ => absurd c_ (show ¬ (nI 38 ≤ nI k) by rw [nI_leI (by omega) (by omega)]; omega)) (fun _ => ?_)
      refine lv_iload_n hx hb dX7_learn_14 rfl (lv_at hl 1 rfl) ?_
      refine lv_bipush (v := 28) hx hb dX7_learn_15 (by decide) ?_
      refine lv_icmp_ge (tgt := 65) hx hb dX7_learn_17 (by decide) (fun c134 => ?_) (fun c134 => ?_)
      · have c134 := (nI_leI (a := 28) (b := at_) (by omega) (by omega)).mp c134
        refine lv_iload_n hx hb dX7_learn_65 rfl (lv_at hl 1 rfl) ?_
        have hP9 := hP.sub (ws' := [(h0, .inr (7, [x1, x2, x3, .ref h1, x4, x5, x6, x7, x8, x9])), (h1, .inl (aC 1, 28, .inr (.inl f8)))]) [0, 1] rfl
        have hD9 := hD.sub (ws' := [(h0, .inr (7, [x1, x2, x3, .ref h1, x4, x5, x6, x7, x8, x9])), (h1, .inl (aC 1, 28, .inr (.inl f8)))]) [0, 1] (by decide) rfl
        exact rI (at_, f8) hx hb hr hlk rfl hS ⟨rfl, (by omega)⟩ hP9 hD9 (Nat.le_of_ble_eq_true rfl) (Nat.le_of_ble_eq_true rfl) dX7_learn_66
      · have c134 := mt (nI_leI (a := 28) (b := at_) (by omega) (by omega)).mpr c134
        refine lv_aload_n hx hb dX7_learn_20 rfl (lv_at hl 3 rfl) ?_
        refine lv_iload hx hb dX7_learn_21 (lv_at hl 0 rfl) ?_
        refine goI (wr := [(h0, .inr (7, [x1, x2, x3, .ref h1, x4, x5, x6, x7, x8, x9])), (h1, .inl (aC 1, 28, .inr (.inl f8)))]) (runVs (n := 1) (As := [.int (nI k)]) (rest := []) F hP hD hS (k_charAt1 l g aC aM k (by omega)) [] (by decide) rfl 1 (by decide) rfl rfl tb58 tb55 tb56 tb57 tb3 ⟨by decide, by decide, by decide +kernel⟩ ⟨Nat.le_of_ble_eq_true rfl, Nat.le_of_ble_eq_true rfl⟩ rfl hl.1 rfl (Nat.le_of_ble_eq_true rfl) dX7_learn_23 ⟨Nat.le_of_ble_eq_true rfl, Nat.le_of_ble_eq_true rfl⟩) hP hD hS hA [] [0, 1] rfl rfl (by decide) (by decide) (fun r_136 w137 H locs hw hP hD hS => ?_)
        have hP : va_P g vwCl [(h0, .inr (7, [x1, x2, x3, .ref h1, x4, x5, x6, x7, x8, x9])), (h1, .inl (aC 1, 28, .inr (.inl f8)))] H := hP
        have hD : va_D A [(h0, .inr (7, [x1, x2, x3, .ref h1, x4, x5, x6, x7, x8, x9])), (h1, .inl (aC 1, 28, .inr (.inl f8)))] := hD
        refine lv_istore (lv' := [(5, .int r_136), (4, .int (nI k)), (3, .int (nI at_)), (0, .ref h0), (1, .ref (aM (1 + 1))), (2, .int (nI a0))]) hx hb dX7_learn_26 hl (by decide) rfl (fun ls hl => ?_)
        refine lv_iload hx hb dX7_learn_28 (lv_at hl 0 rfl) ?_
        refine goI (wr := [(h0, .inr (7, [x1, x2, x3, .ref h1, x4, x5, x6, x7, x8, x9])), (h1, .inl (aC 1, 28, .inr (.inl f8)))]) (runS (n := 1) (As := [.int r_136]) (rest := []) F hP hD hS (k_isLetter l g aC aM r_136) [] (by decide) rfl tb95 tb93 tb94 tb2 ⟨by decide, by decide, by decide +kernel⟩ ⟨Nat.le_of_ble_eq_true rfl, Nat.le_of_ble_eq_true rfl⟩ rfl hl.1 rfl (Nat.le_of_ble_eq_true rfl) dX7_learn_30 ⟨Nat.le_of_ble_eq_true rfl, Nat.le_of_ble_eq_true rfl⟩) hP hD hS hA [] [0, 1] rfl rfl (by decide) (by decide) (fun r_139 w140 H locs hw hP hD hS => ?_)
        have hP : va_P g vwCl [(h0, .inr (7, [x1, x2, x3, .ref h1, x4, x5, x6, x7, x8, x9])), (h1, .inl (aC 1, 28, .inr (.inl f8)))] H := hP
        have hD : va_D A [(h0, .inr (7, [x1, x2, x3, .ref h1, x4, x5, x6, x7, x8, x9])), (h1, .inl (aC 1, 28, .inr (.inl f8)))] := hD
        refine lv_if_eq (tgt := 56) hx hb dX7_learn_33 (by decide) (fun c141 => ?_) (fun c141 => ?_)
        · subst c141
          refine lv_iinc (v := (nI (at_ + 1))) (lv' := [(3, .int (nI (at_ + 1))), (5, .int r_136), (4, .int (nI k)), (0, .ref h0), (1, .ref (aM (1 + 1))), (2, .int (nI a0))]) hx hb dX7_learn_56 hl (k := 2) rfl (ninc 1 (by omega)) (by decide) rfl (fun ls hl => ?_)
          refine lv_iinc (v := (nI (k + 1))) (lv' := [(4, .int (nI (k + 1))), (3, .int (nI (at_ + 1))), (5, .int r_136), (0, .ref h0), (1, .ref (aM (1 + 1))), (2, .int (nI a0))]) hx hb dX7_learn_59 hl (k := 2) rfl (ninc 1 (by omega)) (by decide) rfl (fun ls hl => ?_)
          refine lv_goto (tgt := 5) hx hb dX7_learn_62 (by decide) ?_
          exact ih (k + 1) (at_ + 1) f8 _ _ _ (by omega) (by omega) (hP.sub [0, 1] rfl) (hD.sub [0, 1] (by decide) rfl) hS (lv_sub hl [0, 1, 3, 4, 5] rfl)
        · refine lv_aload_n hx hb dX7_learn_36 rfl (lv_at hl 3 rfl) ?_
          refine xget F hP 0 rfl rfl inX7 3 (by decide) tb107 rfl dX7_learn_37 ?_
          refine lv_iload_n hx hb dX7_learn_40 rfl (lv_at hl 2 rfl) ?_
          refine lv_aload_n hx hb dX7_learn_41 rfl (lv_at hl 3 rfl) ?_
          refine xget F hP 0 rfl rfl inX7 3 (by decide) tb107 rfl dX7_learn_42 ?_
          refine lv_iload_n hx hb dX7_learn_45 rfl (lv_at hl 2 rfl) ?_
          refine xllo (v := (f8 at_)) F hP 1 rfl at_ (nI_pos (by omega)) (nI_clamp (by omega)) (by omega) rfl dX7_learn_46 ?_
          refine lv_iload hx hb dX7_learn_47 (lv_at hl 0 rfl) ?_
          refine goL (wr := [(h0, .inr (7, [x1, x2, x3, .ref h1, x4, x5, x6, x7, x8, x9])), (h1, .inl (aC 1, 28, .inr (.inl f8)))]) (runS (n := 2) (As := [.long (f8 at_), .int r_136]) (rest := [.int (nI at_), .ref h1]) F hP hD hS (k_withLetter l g aC aM (f8 at_) r_136) [] (by decide) rfl tb98 tb96 tb97 tb2 ⟨by decide, by decide, by decide +kernel⟩ ⟨Nat.le_of_ble_eq_true rfl, Nat.le_of_ble_eq_true rfl⟩ rfl hl.1 rfl (Nat.le_of_ble_eq_true rfl) dX7_learn_49 ⟨Nat.le_of_ble_eq_true rfl, Nat.le_of_ble_eq_true rfl⟩) hP hD hS hA [] [0, 1] rfl rfl (by decide) (by decide) (fun r_143 w144 H locs hw hP hD hS => ?_)
          have hP : va_P g vwCl [(h0, .inr (7, [x1, x2, x3, .ref h1, x4, x5, x6, x7, x8, x9])), (h1, .inl (aC 1, 28, .inr (.inl f8)))] H := hP
          have hD : va_D A [(h0, .inr (7, [x1, x2, x3, .ref h1, x4, x5, x6, x7, x8, x9])), (h1, .inl (aC 1, 28, .inr (.inl f8)))] := hD
          refine xlstE F hP hD hS 1 rfl at_ (nI_pos (by omega)) (nI_clamp (by omega)) (by omega) dX7_learn_52 (fun f_145 H locs hP hD hS => ?_)
          have hP : va_P g vwCl [(h0, .inr (7, [x1, x2, x3, .ref h1, x4, x5, x6, x7, x8, x9])), (h1, .inl (aC 1, 28, .inr (.inl f_145)))] H := hP
          have hD : va_D A [(h0, .inr (7, [x1, x2, x3, .ref h1, x4, x5, x6, x7, x8, x9])), (h1, .inl (aC 1, 28, .inr (.inl f_145)))] := hD
          refine lv_goto (tgt := 59) hx hb dX7_learn_53 (by decide) ?_
          refine lv_iinc (v := (nI (k + 1))) (lv' := [(4, .int (nI (k + 1))), (5, .int r_136), (3, .int (nI at_)), (0, .ref h0), (1, .ref (aM (1 + 1))), (2, .int (nI a0))]) hx hb dX7_learn_59 hl (k := 1) rfl (ninc 1 (by omega)) (by decide) rfl (fun ls hl => ?_)
          refine lv_goto (tgt := 5) hx hb dX7_learn_62 (by decide) ?_
          exact ih (k + 1) at_ f_145 _ _ _ (by omega) (by omega) (hP.sub [0, 1] rfl) (hD.sub [0, 1] (by decide) rfl) hS (lv_sub hl [0, 2, 3, 4, 5] rfl)
  exact hloop5 38 0 a0 f _ _ _ (by omega) (by omega) hP hD hS hl

set_option maxHeartbeats 4000000 in
set_option maxRecDepth 100000 in
theorem k_learn2 (l : Launch) (g : va_G) (aC : Nat → ClassId) (aM : Nat → Nat) (h0 h1 : Nat) (x1 x2 x3 x4 x5 x6 x7 x8 x9 : Value) (f : Nat → Int64) (a0 : Nat) (ha0 : a0 ≤ 28) : Ct l g aC aM yX7_learn cX7_learn 6 (some .int) 5 [.ref h0, .ref (aM (1 + 2)), .int (nI a0)] [(h0, .inr (7, [x1, x2, x3, .ref h1, x4, x5, x6, x7, x8, x9])), (h1, .inl (aC 1, 28, .inr (.inl f)))] (QI g (fun (r : Int32) (u : Nat × (Nat → Int64)) => r = (nI u.1) ∧ u.1 ≤ 28) (fun (u : Nat × (Nat → Int64)) => [(h0, .inr (7, [x1, x2, x3, .ref h1, x4, x5, x6, x7, x8, x9])), (h1, .inl (aC 1, 28, .inr (.inl u.2)))])) 0 0 := by
  refine Ct.mk (by decide) (Nat.le_of_ble_eq_true rfl) ?_
  intro p e s m below meth c A ls hx hb hml hown hts hr hlk hnm hK hA hM hM2 hP hD hS hl
  have hown : s.vm.findClass RX7 = some m.cls := hown
  have F : Fx p s m _ c cX7_learn 6 RX7 g aC aM A := ⟨hx, hb, hml, hown, hts, hK, hA, hM, hM2⟩
  have hl : lv_has ls 6 [(0, .ref h0), (1, .ref (aM (1 + 2))), (2, .int (nI a0))] := hl
  refine lv_iload_n hx hb dX7_learn_0 rfl (lv_at hl 2 rfl) ?_
  refine lv_istore_n (lv' := [(3, .int (nI a0)), (0, .ref h0), (1, .ref (aM (1 + 2))), (2, .int (nI a0))]) hx hb dX7_learn_1 rfl hl (by decide) rfl (fun ls hl => ?_)
  refine lv_iconst (v := 0) hx hb dX7_learn_2 (by decide) ?_
  refine lv_istore (lv' := [(4, .int 0), (3, .int (nI a0)), (0, .ref h0), (1, .ref (aM (1 + 2))), (2, .int (nI a0))]) hx hb dX7_learn_3 hl (by decide) rfl (fun ls hl => ?_)
  refine W.widen (k := 0) (n := 0) (Nat.le_of_ble_eq_true rfl) (Nat.le_of_ble_eq_true rfl) ?_
  have hloop5 : ∀ (n k : Nat) (at_ : Nat) (f8 : Nat → Int64) (H : Heap) (locs : List Loc) (ls : Array Slot), k + n = 17 → (at_ ≤ 28) → va_P g vwCl [(h0, .inr (7, [x1, x2, x3, .ref h1, x4, x5, x6, x7, x8, x9])), (h1, .inl (aC 1, 28, .inr (.inl f8)))] H → va_D A [(h0, .inr (7, [x1, x2, x3, .ref h1, x4, x5, x6, x7, x8, x9])), (h1, .inl (aC 1, 28, .inr (.inl f8)))] → va_S A s.heap H locs → lv_has ls 6 [(4, .int (nI k)), (3, .int (nI at_)), (0, .ref h0), (1, .ref (aM (1 + 2))), (2, .int (nI a0))] → W p l e (rmL 5 0 0) s m [.ref h0, .ref (aM (1 + 2)), .int (nI a0)].toArray below meth c H locs 0 0 (MQ below (QI g (fun (r : Int32) (u : Nat × (Nat → Int64)) => r = (nI u.1) ∧ u.1 ≤ 28) (fun (u : Nat × (Nat → Int64)) => [(h0, .inr (7, [x1, x2, x3, .ref h1, x4, x5, x6, x7, x8, x9])), (h1, .inl (aC 1, 28, .inr (.inl u.2)))]) A) [.ref h0, .ref (aM (1 + 2)), .int (nI a0)].toArray s 0 0 A) (F0 m 5 ls []) := by
    intro n
    induction n with
    | zero =>
      intro k at_ f8 H locs ls hk hat hP hD hS hl
      obtain rfl : k = 17 := by omega
      have hl : lv_has ls 6 [(4, .int 17), (3, .int (nI at_)), (0, .ref h0), (1, .ref (aM (1 + 2))), (2, .int (nI a0))] := hl
      refine lv_iload hx hb dX7_learn_5 (lv_at hl 0 rfl) ?_
      refine lv_aload_n hx hb dX7_learn_7 rfl (lv_at hl 3 rfl) ?_
      refine goI (wr := [(h0, .inr (7, [x1, x2, x3, .ref h1, x4, x5, x6, x7, x8, x9])), (h1, .inl (aC 1, 28, .inr (.inl f8)))]) (runVs (n := 0) (As := []) (rest := [.int 17]) F hP hD hS (k_length2 l g aC aM ) [] (by decide) rfl 2 (by decide) rfl rfl tb48 tb45 tb46 tb47 tb3 ⟨by decide, by decide, by decide +kernel⟩ ⟨Nat.le_of_ble_eq_true rfl, Nat.le_of_ble_eq_true rfl⟩ rfl hl.1 rfl (Nat.le_of_ble_eq_true rfl) dX7_learn_8 ⟨Nat.le_of_ble_eq_true rfl, Nat.le_of_ble_eq_true rfl⟩) hP hD hS hA [] [0, 1] rfl rfl (by decide) (by decide) (fun r_147 w148 H locs hw hP hD hS => ?_)
      have hP : va_P g vwCl [(h0, .inr (7, [x1, x2, x3, .ref h1, x4, x5, x6, x7, x8, x9])), (h1, .inl (aC 1, 28, .inr (.inl f8)))] H := hP
      have hD : va_D A [(h0, .inr (7, [x1, x2, x3, .ref h1, x4, x5, x6, x7, x8, x9])), (h1, .inl (aC 1, 28, .inr (.inl f8)))] := hD
      try dsimp only at hw
      subst hw
      refine lv_icmp_ge (tgt := 65) hx hb dX7_learn_11 (by decide) (fun _ => ?_) (fun c_ => absurd (by decide +kernel) c_)
      refine lv_iload_n hx hb dX7_learn_65 rfl (lv_at hl 1 rfl) ?_
      have hP9 := hP.sub (ws' := [(h0, .inr (7, [x1, x2, x3, .ref h1, x4, x5, x6, x7, x8, x9])), (h1, .inl (aC 1, 28, .inr (.inl f8)))]) [0, 1] rfl
      have hD9 := hD.sub (ws' := [(h0, .inr (7, [x1, x2, x3, .ref h1, x4, x5, x6, x7, x8, x9])), (h1, .inl (aC 1, 28, .inr (.inl f8)))]) [0, 1] (by decide) rfl
      exact rI (at_, f8) hx hb hr hlk rfl hS ⟨rfl, (by omega)⟩ hP9 hD9 (Nat.le_of_ble_eq_true rfl) (Nat.le_of_ble_eq_true rfl) dX7_learn_66
    | succ n ih =>
      intro k at_ f8 H locs ls hk hat hP hD hS hl
      have hk2 : k < 17 := by omega
      refine lv_iload hx hb dX7_learn_5 (lv_at hl 0 rfl) ?_
      refine lv_aload_n hx hb dX7_learn_7 rfl (lv_at hl 3 rfl) ?_
      refine goI (wr := [(h0, .inr (7, [x1, x2, x3, .ref h1, x4, x5, x6, x7, x8, x9])), (h1, .inl (aC 1, 28, .inr (.inl f8)))]) (runVs (n := 0) (As := []) (rest := [.int (nI k)]) F hP hD hS (k_length2 l g aC aM ) [] (by decide) rfl 2 (by decide) rfl rfl tb48 tb45 tb46 tb47 tb3 ⟨by decide, by decide, by decide +kernel⟩ ⟨Nat.le_of_ble_eq_true rfl, Nat.le_of_ble_eq_true rfl⟩ rfl hl.1 rfl (Nat.le_of_ble_eq_true rfl) dX7_learn_8 ⟨Nat.le_of_ble_eq_true rfl, Nat.le_of_ble_eq_true rfl⟩) hP hD hS hA [] [0, 1] rfl rfl (by decide) (by decide) (fun r_151 w152 H locs hw hP hD hS => ?_)
      have hP : va_P g vwCl [(h0, .inr (7, [x1, x2, x3, .ref h1, x4, x5, x6, x7, x8, x9])), (h1, .inl (aC 1, 28, .inr (.inl f8)))] H := hP
      have hD : va_D A [(h0, .inr (7, [x1, x2, x3, .ref h1, x4, x5, x6, x7, x8, x9])), (h1, .inl (aC 1, 28, .inr (.inl f8)))] := hD
      try dsimp only at hw
      subst hw
      refine lv_icmp_ge (tgt := 65) hx hb dX7_learn_11 (by decide) (fun c_ => absurd c_ (show ¬ (nI 17 ≤ nI k) by rw [nI_leI (by omega) (by omega)]; omega)) (fun _ => ?_)
      refine lv_iload_n hx hb dX7_learn_14 rfl (lv_at hl 1 rfl) ?_
      refine lv_bipush (v := 28) hx hb dX7_learn_15 (by decide) ?_
      refine lv_icmp_ge (tgt := 65) hx hb dX7_learn_17 (by decide) (fun c153 => ?_) (fun c153 => ?_)
      · have c153 := (nI_leI (a := 28) (b := at_) (by omega) (by omega)).mp c153
        refine lv_iload_n hx hb dX7_learn_65 rfl (lv_at hl 1 rfl) ?_
        have hP9 := hP.sub (ws' := [(h0, .inr (7, [x1, x2, x3, .ref h1, x4, x5, x6, x7, x8, x9])), (h1, .inl (aC 1, 28, .inr (.inl f8)))]) [0, 1] rfl
        have hD9 := hD.sub (ws' := [(h0, .inr (7, [x1, x2, x3, .ref h1, x4, x5, x6, x7, x8, x9])), (h1, .inl (aC 1, 28, .inr (.inl f8)))]) [0, 1] (by decide) rfl
        exact rI (at_, f8) hx hb hr hlk rfl hS ⟨rfl, (by omega)⟩ hP9 hD9 (Nat.le_of_ble_eq_true rfl) (Nat.le_of_ble_eq_true rfl) dX7_learn_66
      · have c153 := mt (nI_leI (a := 28) (b := at_) (by omega) (by omega)).mpr c153
        refine lv_aload_n hx hb dX7_learn_20 rfl (lv_at hl 3 rfl) ?_
        refine lv_iload hx hb dX7_learn_21 (lv_at hl 0 rfl) ?_
        refine goI (wr := [(h0, .inr (7, [x1, x2, x3, .ref h1, x4, x5, x6, x7, x8, x9])), (h1, .inl (aC 1, 28, .inr (.inl f8)))]) (runVs (n := 1) (As := [.int (nI k)]) (rest := []) F hP hD hS (k_charAt2 l g aC aM k (by omega)) [] (by decide) rfl 2 (by decide) rfl rfl tb58 tb55 tb56 tb57 tb3 ⟨by decide, by decide, by decide +kernel⟩ ⟨Nat.le_of_ble_eq_true rfl, Nat.le_of_ble_eq_true rfl⟩ rfl hl.1 rfl (Nat.le_of_ble_eq_true rfl) dX7_learn_23 ⟨Nat.le_of_ble_eq_true rfl, Nat.le_of_ble_eq_true rfl⟩) hP hD hS hA [] [0, 1] rfl rfl (by decide) (by decide) (fun r_155 w156 H locs hw hP hD hS => ?_)
        have hP : va_P g vwCl [(h0, .inr (7, [x1, x2, x3, .ref h1, x4, x5, x6, x7, x8, x9])), (h1, .inl (aC 1, 28, .inr (.inl f8)))] H := hP
        have hD : va_D A [(h0, .inr (7, [x1, x2, x3, .ref h1, x4, x5, x6, x7, x8, x9])), (h1, .inl (aC 1, 28, .inr (.inl f8)))] := hD
        refine lv_istore (lv' := [(5, .int r_155), (4, .int (nI k)), (3, .int (nI at_)), (0, .ref h0), (1, .ref (aM (1 + 2))), (2, .int (nI a0))]) hx hb dX7_learn_26 hl (by decide) rfl (fun ls hl => ?_)
        refine lv_iload hx hb dX7_learn_28 (lv_at hl 0 rfl) ?_
        refine goI (wr := [(h0, .inr (7, [x1, x2, x3, .ref h1, x4, x5, x6, x7, x8, x9])), (h1, .inl (aC 1, 28, .inr (.inl f8)))]) (runS (n := 1) (As := [.int r_155]) (rest := []) F hP hD hS (k_isLetter l g aC aM r_155) [] (by decide) rfl tb95 tb93 tb94 tb2 ⟨by decide, by decide, by decide +kernel⟩ ⟨Nat.le_of_ble_eq_true rfl, Nat.le_of_ble_eq_true rfl⟩ rfl hl.1 rfl (Nat.le_of_ble_eq_true rfl) dX7_learn_30 ⟨Nat.le_of_ble_eq_true rfl, Nat.le_of_ble_eq_true rfl⟩) hP hD hS hA [] [0, 1] rfl rfl (by decide) (by decide) (fun r_158 w159 H locs hw hP hD hS => ?_)
        have hP : va_P g vwCl [(h0, .inr (7, [x1, x2, x3, .ref h1, x4, x5, x6, x7, x8, x9])), (h1, .inl (aC 1, 28, .inr (.inl f8)))] H := hP
        have hD : va_D A [(h0, .inr (7, [x1, x2, x3, .ref h1, x4, x5, x6, x7, x8, x9])), (h1, .inl (aC 1, 28, .inr (.inl f8)))] := hD
        refine lv_if_eq (tgt := 56) hx hb dX7_learn_33 (by decide) (fun c160 => ?_) (fun c160 => ?_)
        · subst c160
          refine lv_iinc (v := (nI (at_ + 1))) (lv' := [(3, .int (nI (at_ + 1))), (5, .int r_155), (4, .int (nI k)), (0, .ref h0), (1, .ref (aM (1 + 2))), (2, .int (nI a0))]) hx hb dX7_learn_56 hl (k := 2) rfl (ninc 1 (by omega)) (by decide) rfl (fun ls hl => ?_)
          refine lv_iinc (v := (nI (k + 1))) (lv' := [(4, .int (nI (k + 1))), (3, .int (nI (at_ + 1))), (5, .int r_155), (0, .ref h0), (1, .ref (aM (1 + 2))), (2, .int (nI a0))]) hx hb dX7_learn_59 hl (k := 2) rfl (ninc 1 (by omega)) (by decide) rfl (fun ls hl => ?_)
          refine lv_goto (tgt := 5) hx hb dX7_learn_62 (by decide) ?_
          exact ih (k + 1) (at_ + 1) f8 _ _ _ (by omega) (by omega) (hP.sub [0, 1] rfl) (hD.sub [0, 1] (by decide) rfl) hS (lv_sub hl [0, 1, 3, 4, 5] rfl)
        · refine lv_aload_n hx hb dX7_learn_36 rfl (lv_at hl 3 rfl) ?_
          refine xget F hP 0 rfl rfl inX7 3 (by decide) tb107 rfl dX7_learn_37 ?_
          refine lv_iload_n hx hb dX7_learn_40 rfl (lv_at hl 2 rfl) ?_
          refine lv_aload_n hx hb dX7_learn_41 rfl (lv_at hl 3 rfl) ?_
          refine xget F hP 0 rfl rfl inX7 3 (by decide) tb107 rfl dX7_learn_42 ?_
          refine lv_iload_n hx hb dX7_learn_45 rfl (lv_at hl 2 rfl) ?_
          refine xllo (v := (f8 at_)) F hP 1 rfl at_ (nI_pos (by omega)) (nI_clamp (by omega)) (by omega) rfl dX7_learn_46 ?_
          refine lv_iload hx hb dX7_learn_47 (lv_at hl 0 rfl) ?_
          refine goL (wr := [(h0, .inr (7, [x1, x2, x3, .ref h1, x4, x5, x6, x7, x8, x9])), (h1, .inl (aC 1, 28, .inr (.inl f8)))]) (runS (n := 2) (As := [.long (f8 at_), .int r_155]) (rest := [.int (nI at_), .ref h1]) F hP hD hS (k_withLetter l g aC aM (f8 at_) r_155) [] (by decide) rfl tb98 tb96 tb97 tb2 ⟨by decide, by decide, by decide +kernel⟩ ⟨Nat.le_of_ble_eq_true rfl, Nat.le_of_ble_eq_true rfl⟩ rfl hl.1 rfl (Nat.le_of_ble_eq_true rfl) dX7_learn_49 ⟨Nat.le_of_ble_eq_true rfl, Nat.le_of_ble_eq_true rfl⟩) hP hD hS hA [] [0, 1] rfl rfl (by decide) (by decide) (fun r_162 w163 H locs hw hP hD hS => ?_)
          have hP : va_P g vwCl [(h0, .inr (7, [x1, x2, x3, .ref h1, x4, x5, x6, x7, x8, x9])), (h1, .inl (aC 1, 28, .inr (.inl f8)))] H := hP
          have hD : va_D A [(h0, .inr (7, [x1, x2, x3, .ref h1, x4, x5, x6, x7, x8, x9])), (h1, .inl (aC 1, 28, .inr (.inl f8)))] := hD
          refine xlstE F hP hD hS 1 rfl at_ (nI_pos (by omega)) (nI_clamp (by omega)) (by omega) dX7_learn_52 (fun f_164 H locs hP hD hS => ?_)
          have hP : va_P g vwCl [(h0, .inr (7, [x1, x2, x3, .ref h1, x4, x5, x6, x7, x8, x9])), (h1, .inl (aC 1, 28, .inr (.inl f_164)))] H := hP
          have hD : va_D A [(h0, .inr (7, [x1, x2, x3, .ref h1, x4, x5, x6, x7, x8, x9])), (h1, .inl (aC 1, 28, .inr (.inl f_164)))] := hD
          refine lv_goto (tgt := 59) hx hb dX7_learn_53 (by decide) ?_
          refine lv_iinc (v := (nI (k + 1))) (lv' := [(4, .int (nI (k + 1))), (5, .int r_155), (3, .int (nI at_)), (0, .ref h0), (1, .ref (aM (1 + 2))), (2, .int (nI a0))]) hx hb dX7_learn_59 hl (k := 1) rfl (ninc 1 (by omega)) (by decide) rfl (fun ls hl => ?_)
          refine lv_goto (tgt := 5) hx hb dX7_learn_62 (by decide) ?_
          exact ih (k + 1) at_ f_164 _ _ _ (by omega) (by omega) (hP.sub [0, 1] rfl) (hD.sub [0, 1] (by decide) rfl) hS (lv_sub hl [0, 2, 3, 4, 5] rfl)
  exact hloop5 17 0 a0 f _ _ _ (by omega) (by omega) hP hD hS hl

set_option maxHeartbeats 4000000 in
set_option maxRecDepth 100000 in
theorem k_Tokens_init (l : Launch) (g : va_G) (aC : Nat → ClassId) (aM : Nat → Nat) (h0 : Nat) : Ct l g aC aM yX7_init cX7_init 2 none 6 [.ref h0] [(h0, .inr (7, [.int 0, .int 0, .null, .null, .int 0, .int 0, .int 0, .long 0, .int 0, .int 0]))] (QV g (fun (u : Nat × Nat × (Nat → Int64)) => True) (fun (u : Nat × Nat × (Nat → Int64)) => [(h0, .inr (7, [.int 0, .int 0, .ref u.1, .ref u.2.1, .int 0, .int 0, .int 0, .long 0, .int 0, .int 0])), (u.1, .inl (aC 2, 1000, .inl (fun _ => 0))), (u.2.1, .inl (aC 1, 28, .inr (.inl u.2.2)))])) 2 1028 := by
  refine Ct.mk (by decide) (Nat.le_of_ble_eq_true rfl) ?_
  intro p e s m below meth c A ls hx hb hml hown hts hr hlk hnm hK hA hM hM2 hP hD hS hl
  have hown : s.vm.findClass RX7 = some m.cls := hown
  have F : Fx p s m _ c cX7_init 2 RX7 g aC aM A := ⟨hx, hb, hml, hown, hts, hK, hA, hM, hM2⟩
  have hl : lv_has ls 2 [(0, .ref h0)] := hl
  refine lv_aload_n hx hb dX7_init_0 rfl (lv_at hl 0 rfl) ?_
  refine xobj F tb39 tb32 tb33 hl.1 dX7_init_1 (Nat.le_of_ble_eq_true rfl) (Nat.le_of_ble_eq_true rfl) ?_
  refine lv_aload_n hx hb dX7_init_4 rfl (lv_at hl 0 rfl) ?_
  refine lv_sipush (v := 1000) hx hb dX7_init_5 (by decide) ?_
  refine xnewa (atype := .char) (a0 := (1000, .inl (fun _ => 0))) (N' := 1000) F hP hD hS rfl tb135 2 rfl (fun _ => rfl) (fun _ => rfl) (by decide +kernel) (by decide +kernel) (by decide) (Nat.le_of_ble_eq_true rfl) (Nat.le_of_ble_eq_true rfl) dX7_init_8 (fun q165 H hP hD hS => ?_)
  have hP : va_P g vwCl [(h0, .inr (7, [.int 0, .int 0, .null, .null, .int 0, .int 0, .int 0, .long 0, .int 0, .int 0])), (q165, .inl (aC 2, 1000, .inl (fun _ => 0)))] H := hP
  have hD : va_D A [(h0, .inr (7, [.int 0, .int 0, .null, .null, .int 0, .int 0, .int 0, .long 0, .int 0, .int 0])), (q165, .inl (aC 2, 1000, .inl (fun _ => 0)))] := hD
  refine xputF F hP hD hS 0 rfl rfl inX7 tyX7_ok nmX7 2 (by decide) tb106 rfl hnm rfl rfl rfl (Nat.le_of_ble_eq_true rfl) dX7_init_10 (fun H locs hP hD hS => ?_)
  have hP : va_P g vwCl [(h0, .inr (7, [.int 0, .int 0, .ref q165, .null, .int 0, .int 0, .int 0, .long 0, .int 0, .int 0])), (q165, .inl (aC 2, 1000, .inl (fun _ => 0)))] H := hP
  have hD : va_D A [(h0, .inr (7, [.int 0, .int 0, .ref q165, .null, .int 0, .int 0, .int 0, .long 0, .int 0, .int 0])), (q165, .inl (aC 2, 1000, .inl (fun _ => 0)))] := hD
  refine lv_aload_n hx hb dX7_init_13 rfl (lv_at hl 0 rfl) ?_
  refine lv_bipush (v := 28) hx hb dX7_init_14 (by decide) ?_
  refine xnewa (atype := .long) (a0 := (28, .inr (.inl (fun _ => 0)))) (N' := 28) F hP hD hS rfl tb136 1 rfl (fun _ => rfl) (fun _ => rfl) (by decide +kernel) (by decide +kernel) (by decide) (Nat.le_of_ble_eq_true rfl) (Nat.le_of_ble_eq_true rfl) dX7_init_16 (fun q166 H hP hD hS => ?_)
  have hP : va_P g vwCl [(h0, .inr (7, [.int 0, .int 0, .ref q165, .null, .int 0, .int 0, .int 0, .long 0, .int 0, .int 0])), (q165, .inl (aC 2, 1000, .inl (fun _ => 0))), (q166, .inl (aC 1, 28, .inr (.inl (fun _ => 0))))] H := hP
  have hD : va_D A [(h0, .inr (7, [.int 0, .int 0, .ref q165, .null, .int 0, .int 0, .int 0, .long 0, .int 0, .int 0])), (q165, .inl (aC 2, 1000, .inl (fun _ => 0))), (q166, .inl (aC 1, 28, .inr (.inl (fun _ => 0))))] := hD
  refine xputF F hP hD hS 0 rfl rfl inX7 tyX7_ok nmX7 3 (by decide) tb107 rfl hnm rfl rfl rfl (Nat.le_of_ble_eq_true rfl) dX7_init_18 (fun H locs hP hD hS => ?_)
  have hP : va_P g vwCl [(h0, .inr (7, [.int 0, .int 0, .ref q165, .ref q166, .int 0, .int 0, .int 0, .long 0, .int 0, .int 0])), (q165, .inl (aC 2, 1000, .inl (fun _ => 0))), (q166, .inl (aC 1, 28, .inr (.inl (fun _ => 0))))] H := hP
  have hD : va_D A [(h0, .inr (7, [.int 0, .int 0, .ref q165, .ref q166, .int 0, .int 0, .int 0, .long 0, .int 0, .int 0])), (q165, .inl (aC 2, 1000, .inl (fun _ => 0))), (q166, .inl (aC 1, 28, .inr (.inl (fun _ => 0))))] := hD
  refine lv_aload_n hx hb dX7_init_21 rfl (lv_at hl 0 rfl) ?_
  refine va_ldcS hx hb hown (hM2.2.2.2.2.2 0 (by decide)) dX7_init_22 ?_
  refine lv_iconst (v := 0) hx hb dX7_init_24 (by decide) ?_
  refine goI (wr := [(q165, .inl (aC 2, 1000, .inl (fun _ => 0)))]) (runV (n := 2) (As := [.ref (aM (1 + 0)), .int 0]) (rest := []) F hP hD hS (k_learn0 l g aC aM h0 q166 (.int 0) (.int 0) (.ref q165) (.int 0) (.int 0) (.int 0) (.long 0) (.int 0) (.int 0) (fun _ => 0) 0 (by omega)) [0, 2] (by decide) rfl 0 7 rfl rfl rfl tb44 tb41 tb43 tv0 tb2 ⟨by decide, by decide, by decide +kernel⟩ ⟨Nat.le_of_ble_eq_true rfl, Nat.le_of_ble_eq_true rfl⟩ rfl hl.1 rfl (Nat.le_of_ble_eq_true rfl) dX7_init_25 ⟨Nat.le_of_ble_eq_true rfl, Nat.le_of_ble_eq_true rfl⟩) hP hD hS hA [0, 2] [1] rfl rfl (by decide) (by decide) (fun r_170 w171 H locs hw hP hD hS => ?_)
  obtain ⟨u167, u168⟩ := w171
  have hP : va_P g vwCl [(q165, .inl (aC 2, 1000, .inl (fun _ => 0))), (h0, .inr (7, [.int 0, .int 0, .ref q165, .ref q166, .int 0, .int 0, .int 0, .long 0, .int 0, .int 0])), (q166, .inl (aC 1, 28, .inr (.inl u168)))] H := hP
  have hD : va_D A [(q165, .inl (aC 2, 1000, .inl (fun _ => 0))), (h0, .inr (7, [.int 0, .int 0, .ref q165, .ref q166, .int 0, .int 0, .int 0, .long 0, .int 0, .int 0])), (q166, .inl (aC 1, 28, .inr (.inl u168)))] := hD
  obtain ⟨hw, x172⟩ := hw
  try dsimp only at hw
  subst hw
  refine lv_istore_n (lv' := [(1, .int (nI u167)), (0, .ref h0)]) hx hb dX7_init_28 rfl hl (by decide) rfl (fun ls hl => ?_)
  refine lv_aload_n hx hb dX7_init_29 rfl (lv_at hl 1 rfl) ?_
  refine va_ldcS hx hb hown (hM2.2.2.2.2.2 1 (by decide)) dX7_init_30 ?_
  refine lv_iload_n hx hb dX7_init_32 rfl (lv_at hl 0 rfl) ?_
  refine goI (wr := [(q165, .inl (aC 2, 1000, .inl (fun _ => 0)))]) (runV (n := 2) (As := [.ref (aM (1 + 1)), .int (nI u167)]) (rest := []) F hP hD hS (k_learn1 l g aC aM h0 q166 (.int 0) (.int 0) (.ref q165) (.int 0) (.int 0) (.int 0) (.long 0) (.int 0) (.int 0) u168 u167 (by omega)) [1, 2] (by decide) rfl 1 7 rfl rfl rfl tb44 tb41 tb43 tv0 tb2 ⟨by decide, by decide, by decide +kernel⟩ ⟨Nat.le_of_ble_eq_true rfl, Nat.le_of_ble_eq_true rfl⟩ rfl hl.1 rfl (Nat.le_of_ble_eq_true rfl) dX7_init_33 ⟨Nat.le_of_ble_eq_true rfl, Nat.le_of_ble_eq_true rfl⟩) hP hD hS hA [1, 2] [0] rfl rfl (by decide) (by decide) (fun r_176 w177 H locs hw hP hD hS => ?_)
  obtain ⟨u173, u174⟩ := w177
  have hP : va_P g vwCl [(q165, .inl (aC 2, 1000, .inl (fun _ => 0))), (h0, .inr (7, [.int 0, .int 0, .ref q165, .ref q166, .int 0, .int 0, .int 0, .long 0, .int 0, .int 0])), (q166, .inl (aC 1, 28, .inr (.inl u174)))] H := hP
  have hD : va_D A [(q165, .inl (aC 2, 1000, .inl (fun _ => 0))), (h0, .inr (7, [.int 0, .int 0, .ref q165, .ref q166, .int 0, .int 0, .int 0, .long 0, .int 0, .int 0])), (q166, .inl (aC 1, 28, .inr (.inl u174)))] := hD
  obtain ⟨hw, x178⟩ := hw
  try dsimp only at hw
  subst hw
  refine lv_istore_n (lv' := [(1, .int (nI u173)), (0, .ref h0)]) hx hb dX7_init_36 rfl hl (by decide) rfl (fun ls hl => ?_)
  refine lv_aload_n hx hb dX7_init_37 rfl (lv_at hl 1 rfl) ?_
  refine va_ldcS hx hb hown (hM2.2.2.2.2.2 2 (by decide)) dX7_init_38 ?_
  refine lv_iload_n hx hb dX7_init_40 rfl (lv_at hl 0 rfl) ?_
  refine goI (wr := [(q165, .inl (aC 2, 1000, .inl (fun _ => 0)))]) (runV (n := 2) (As := [.ref (aM (1 + 2)), .int (nI u173)]) (rest := []) F hP hD hS (k_learn2 l g aC aM h0 q166 (.int 0) (.int 0) (.ref q165) (.int 0) (.int 0) (.int 0) (.long 0) (.int 0) (.int 0) u174 u173 (by omega)) [1, 2] (by decide) rfl 1 7 rfl rfl rfl tb44 tb41 tb43 tv0 tb2 ⟨by decide, by decide, by decide +kernel⟩ ⟨Nat.le_of_ble_eq_true rfl, Nat.le_of_ble_eq_true rfl⟩ rfl hl.1 rfl (Nat.le_of_ble_eq_true rfl) dX7_init_41 ⟨Nat.le_of_ble_eq_true rfl, Nat.le_of_ble_eq_true rfl⟩) hP hD hS hA [1, 2] [0] rfl rfl (by decide) (by decide) (fun r_182 w183 H locs hw hP hD hS => ?_)
  obtain ⟨u179, u180⟩ := w183
  have hP : va_P g vwCl [(q165, .inl (aC 2, 1000, .inl (fun _ => 0))), (h0, .inr (7, [.int 0, .int 0, .ref q165, .ref q166, .int 0, .int 0, .int 0, .long 0, .int 0, .int 0])), (q166, .inl (aC 1, 28, .inr (.inl u180)))] H := hP
  have hD : va_D A [(q165, .inl (aC 2, 1000, .inl (fun _ => 0))), (h0, .inr (7, [.int 0, .int 0, .ref q165, .ref q166, .int 0, .int 0, .int 0, .long 0, .int 0, .int 0])), (q166, .inl (aC 1, 28, .inr (.inl u180)))] := hD
  obtain ⟨hw, x184⟩ := hw
  try dsimp only at hw
  subst hw
  refine lv_pop hx hb dX7_init_44 rfl ?_
  have hP9 := hP.sub (ws' := [(h0, .inr (7, [.int 0, .int 0, .ref q165, .ref q166, .int 0, .int 0, .int 0, .long 0, .int 0, .int 0])), (q165, .inl (aC 2, 1000, .inl (fun _ => 0))), (q166, .inl (aC 1, 28, .inr (.inl u180)))]) [1, 0, 2] rfl
  have hD9 := hD.sub (ws' := [(h0, .inr (7, [.int 0, .int 0, .ref q165, .ref q166, .int 0, .int 0, .int 0, .long 0, .int 0, .int 0])), (q165, .inl (aC 2, 1000, .inl (fun _ => 0))), (q166, .inl (aC 1, 28, .inr (.inl u180)))]) [1, 0, 2] (by decide) rfl
  exact rV (q165, q166, u180) hx hb hr hlk hS trivial hP9 hD9 (Nat.le_of_ble_eq_true rfl) (Nat.le_of_ble_eq_true rfl) dX7_init_45

set_option maxHeartbeats 4000000 in
set_option maxRecDepth 100000 in
theorem k_Town_clear (l : Launch) (g : va_G) (aC : Nat → ClassId) (aM : Nat → Nat) (h0 h1 h2 h3 h4 : Nat) (x1 x2 x3 x4 x5 x6 x7 x8 : Value) (n1 n2 n3 : Int32) (f : Nat → Int32) : Ct l g aC aM yX8_clear cX8_clear 1 none 2 [.ref h0] [(h0, .inr (8, [.ref h1, x1, x2, x3, x4, .int n1, .int n2, .ref h2, .ref h3, x5, .ref h4, x6])), (h1, .inl (aC 0, 5, .inl (fun _ => 0))), (h2, .inr (4, [x7, .int n3, x8])), (h3, .inl (aC 1, 25, .inr (.inl (fun _ => 0)))), (h4, .inl (aC 0, 30, .inl f))] (QV g (fun (u : Nat → Int32) => True) (fun (u : Nat → Int32) => [(h0, .inr (8, [.ref h1, x1, x2, x3, x4, .int (-1), .int (-1), .ref h2, .ref h3, x5, .ref h4, x6])), (h1, .inl (aC 0, 5, .inl (fun _ => 0))), (h2, .inr (4, [x7, .int 0, x8])), (h3, .inl (aC 1, 25, .inr (.inl (fun _ => 0)))), (h4, .inl (aC 0, 30, .inl u))])) 0 0 := by
  refine Ct.mk (by decide) (Nat.le_of_ble_eq_true rfl) ?_
  intro p e s m below meth c A ls hx hb hml hown hts hr hlk hnm hK hA hM hM2 hP hD hS hl
  have hown : s.vm.findClass RX8 = some m.cls := hown
  have F : Fx p s m _ c cX8_clear 1 RX8 g aC aM A := ⟨hx, hb, hml, hown, hts, hK, hA, hM, hM2⟩
  have hl : lv_has ls 1 [(0, .ref h0)] := hl
  refine lv_aload_n hx hb dX8_clear_0 rfl (lv_at hl 0 rfl) ?_
  refine xget F hP 0 rfl rfl inX8 0 (by decide) tb227 rfl dX8_clear_1 ?_
  refine lv_iconst (v := 0) hx hb dX8_clear_4 (by decide) ?_
  refine goV (wr := [(h0, .inr (8, [.ref h1, x1, x2, x3, x4, .int n1, .int n2, .ref h2, .ref h3, x5, .ref h4, x6])), (h2, .inr (4, [x7, .int n3, x8])), (h3, .inl (aC 1, 25, .inr (.inl (fun _ => 0)))), (h4, .inl (aC 0, 30, .inl f))]) (runS (n := 2) (As := [.ref h1, .int 0]) (rest := []) F hP hD hS (k_fill5 l g aC aM h1) [1] (by decide) rfl tb199 tb197 tb198 tb11 ⟨by decide, by decide, by decide +kernel⟩ ⟨Nat.le_of_ble_eq_true rfl, Nat.le_of_ble_eq_true rfl⟩ rfl hl.1 rfl (Nat.le_of_ble_eq_true rfl) dX8_clear_5 ⟨Nat.le_of_ble_eq_true rfl, Nat.le_of_ble_eq_true rfl⟩) hP hD hS hA [1] [0, 2, 3, 4] rfl rfl (by decide) (by decide) (fun w187 H locs hw hP hD hS => ?_)
  have hP : va_P g vwCl [(h0, .inr (8, [.ref h1, x1, x2, x3, x4, .int n1, .int n2, .ref h2, .ref h3, x5, .ref h4, x6])), (h2, .inr (4, [x7, .int n3, x8])), (h3, .inl (aC 1, 25, .inr (.inl (fun _ => 0)))), (h4, .inl (aC 0, 30, .inl f)), (h1, .inl (aC 0, 5, .inl (fun _ => 0)))] H := hP
  have hD : va_D A [(h0, .inr (8, [.ref h1, x1, x2, x3, x4, .int n1, .int n2, .ref h2, .ref h3, x5, .ref h4, x6])), (h2, .inr (4, [x7, .int n3, x8])), (h3, .inl (aC 1, 25, .inr (.inl (fun _ => 0)))), (h4, .inl (aC 0, 30, .inl f)), (h1, .inl (aC 0, 5, .inl (fun _ => 0)))] := hD
  refine lv_aload_n hx hb dX8_clear_8 rfl (lv_at hl 0 rfl) ?_
  refine xget F hP 0 rfl rfl inX8 8 (by decide) tb256 rfl dX8_clear_9 ?_
  refine lv_lconst (v := 0) hx hb dX8_clear_12 (by decide) ?_
  refine goV (wr := [(h0, .inr (8, [.ref h1, x1, x2, x3, x4, .int n1, .int n2, .ref h2, .ref h3, x5, .ref h4, x6])), (h2, .inr (4, [x7, .int n3, x8])), (h4, .inl (aC 0, 30, .inl f)), (h1, .inl (aC 0, 5, .inl (fun _ => 0)))]) (runS (n := 2) (As := [.ref h3, .long 0]) (rest := []) F hP hD hS (k_fill25 l g aC aM h3) [2] (by decide) rfl tb202 tb200 tb201 tb11 ⟨by decide, by decide, by decide +kernel⟩ ⟨Nat.le_of_ble_eq_true rfl, Nat.le_of_ble_eq_true rfl⟩ rfl hl.1 rfl (Nat.le_of_ble_eq_true rfl) dX8_clear_13 ⟨Nat.le_of_ble_eq_true rfl, Nat.le_of_ble_eq_true rfl⟩) hP hD hS hA [2] [0, 1, 3, 4] rfl rfl (by decide) (by decide) (fun w190 H locs hw hP hD hS => ?_)
  have hP : va_P g vwCl [(h0, .inr (8, [.ref h1, x1, x2, x3, x4, .int n1, .int n2, .ref h2, .ref h3, x5, .ref h4, x6])), (h2, .inr (4, [x7, .int n3, x8])), (h4, .inl (aC 0, 30, .inl f)), (h1, .inl (aC 0, 5, .inl (fun _ => 0))), (h3, .inl (aC 1, 25, .inr (.inl (fun _ => 0))))] H := hP
  have hD : va_D A [(h0, .inr (8, [.ref h1, x1, x2, x3, x4, .int n1, .int n2, .ref h2, .ref h3, x5, .ref h4, x6])), (h2, .inr (4, [x7, .int n3, x8])), (h4, .inl (aC 0, 30, .inl f)), (h1, .inl (aC 0, 5, .inl (fun _ => 0))), (h3, .inl (aC 1, 25, .inr (.inl (fun _ => 0))))] := hD
  refine lv_aload_n hx hb dX8_clear_16 rfl (lv_at hl 0 rfl) ?_
  refine xget F hP 0 rfl rfl inX8 10 (by decide) tb258 rfl dX8_clear_17 ?_
  refine lv_iconst (v := (-1)) hx hb dX8_clear_20 (by decide) ?_
  refine goV (wr := [(h0, .inr (8, [.ref h1, x1, x2, x3, x4, .int n1, .int n2, .ref h2, .ref h3, x5, .ref h4, x6])), (h2, .inr (4, [x7, .int n3, x8])), (h1, .inl (aC 0, 5, .inl (fun _ => 0))), (h3, .inl (aC 1, 25, .inr (.inl (fun _ => 0))))]) (runS (n := 2) (As := [.ref h4, .int (-1)]) (rest := []) F hP hD hS (k_fill30 l g aC aM h4 f) [2] (by decide) rfl tb199 tb197 tb198 tb11 ⟨by decide, by decide, by decide +kernel⟩ ⟨Nat.le_of_ble_eq_true rfl, Nat.le_of_ble_eq_true rfl⟩ rfl hl.1 rfl (Nat.le_of_ble_eq_true rfl) dX8_clear_21 ⟨Nat.le_of_ble_eq_true rfl, Nat.le_of_ble_eq_true rfl⟩) hP hD hS hA [2] [0, 1, 3, 4] rfl rfl (by decide) (by decide) (fun w194 H locs hw hP hD hS => ?_)
  obtain ⟨u191, rfl⟩ : ∃ z_, z_ = w194 := ⟨_, rfl⟩
  have hP : va_P g vwCl [(h0, .inr (8, [.ref h1, x1, x2, x3, x4, .int n1, .int n2, .ref h2, .ref h3, x5, .ref h4, x6])), (h2, .inr (4, [x7, .int n3, x8])), (h1, .inl (aC 0, 5, .inl (fun _ => 0))), (h3, .inl (aC 1, 25, .inr (.inl (fun _ => 0)))), (h4, .inl (aC 0, 30, .inl u191))] H := hP
  have hD : va_D A [(h0, .inr (8, [.ref h1, x1, x2, x3, x4, .int n1, .int n2, .ref h2, .ref h3, x5, .ref h4, x6])), (h2, .inr (4, [x7, .int n3, x8])), (h1, .inl (aC 0, 5, .inl (fun _ => 0))), (h3, .inl (aC 1, 25, .inr (.inl (fun _ => 0)))), (h4, .inl (aC 0, 30, .inl u191))] := hD
  refine lv_aload_n hx hb dX8_clear_24 rfl (lv_at hl 0 rfl) ?_
  refine lv_iconst (v := (-1)) hx hb dX8_clear_25 (by decide) ?_
  refine xput F hP hD hS 0 rfl rfl inX8 tyX8_ok nmX8 5 (by decide) tb247 rfl rfl rfl (Nat.le_of_ble_eq_true rfl) dX8_clear_26 (fun H locs hP hD hS => ?_)
  have hP : va_P g vwCl [(h0, .inr (8, [.ref h1, x1, x2, x3, x4, .int (-1), .int n2, .ref h2, .ref h3, x5, .ref h4, x6])), (h2, .inr (4, [x7, .int n3, x8])), (h1, .inl (aC 0, 5, .inl (fun _ => 0))), (h3, .inl (aC 1, 25, .inr (.inl (fun _ => 0)))), (h4, .inl (aC 0, 30, .inl u191))] H := hP
  have hD : va_D A [(h0, .inr (8, [.ref h1, x1, x2, x3, x4, .int (-1), .int n2, .ref h2, .ref h3, x5, .ref h4, x6])), (h2, .inr (4, [x7, .int n3, x8])), (h1, .inl (aC 0, 5, .inl (fun _ => 0))), (h3, .inl (aC 1, 25, .inr (.inl (fun _ => 0)))), (h4, .inl (aC 0, 30, .inl u191))] := hD
  refine lv_aload_n hx hb dX8_clear_29 rfl (lv_at hl 0 rfl) ?_
  refine lv_iconst (v := (-1)) hx hb dX8_clear_30 (by decide) ?_
  refine xput F hP hD hS 0 rfl rfl inX8 tyX8_ok nmX8 6 (by decide) tb250 rfl rfl rfl (Nat.le_of_ble_eq_true rfl) dX8_clear_31 (fun H locs hP hD hS => ?_)
  have hP : va_P g vwCl [(h0, .inr (8, [.ref h1, x1, x2, x3, x4, .int (-1), .int (-1), .ref h2, .ref h3, x5, .ref h4, x6])), (h2, .inr (4, [x7, .int n3, x8])), (h1, .inl (aC 0, 5, .inl (fun _ => 0))), (h3, .inl (aC 1, 25, .inr (.inl (fun _ => 0)))), (h4, .inl (aC 0, 30, .inl u191))] H := hP
  have hD : va_D A [(h0, .inr (8, [.ref h1, x1, x2, x3, x4, .int (-1), .int (-1), .ref h2, .ref h3, x5, .ref h4, x6])), (h2, .inr (4, [x7, .int n3, x8])), (h1, .inl (aC 0, 5, .inl (fun _ => 0))), (h3, .inl (aC 1, 25, .inr (.inl (fun _ => 0)))), (h4, .inl (aC 0, 30, .inl u191))] := hD
  refine lv_aload_n hx hb dX8_clear_34 rfl (lv_at hl 0 rfl) ?_
  refine xget F hP 0 rfl rfl inX8 7 (by decide) tb253 rfl dX8_clear_35 ?_
  refine goV (wr := [(h0, .inr (8, [.ref h1, x1, x2, x3, x4, .int (-1), .int (-1), .ref h2, .ref h3, x5, .ref h4, x6])), (h1, .inl (aC 0, 5, .inl (fun _ => 0))), (h3, .inl (aC 1, 25, .inr (.inl (fun _ => 0)))), (h4, .inl (aC 0, 30, .inl u191))]) (runV (n := 0) (As := []) (rest := []) F hP hD hS (k_Price_clear l g aC aM h2 x7 x8 n3) [1] (by decide) rfl 1 4 rfl rfl rfl tb206 tb203 tb204 tb205 tb10 ⟨by decide, by decide, by decide +kernel⟩ ⟨Nat.le_of_ble_eq_true rfl, Nat.le_of_ble_eq_true rfl⟩ rfl hl.1 rfl (Nat.le_of_ble_eq_true rfl) dX8_clear_38 ⟨Nat.le_of_ble_eq_true rfl, Nat.le_of_ble_eq_true rfl⟩) hP hD hS hA [1] [0, 2, 3, 4] rfl rfl (by decide) (by decide) (fun w197 H locs hw hP hD hS => ?_)
  have hP : va_P g vwCl [(h0, .inr (8, [.ref h1, x1, x2, x3, x4, .int (-1), .int (-1), .ref h2, .ref h3, x5, .ref h4, x6])), (h1, .inl (aC 0, 5, .inl (fun _ => 0))), (h3, .inl (aC 1, 25, .inr (.inl (fun _ => 0)))), (h4, .inl (aC 0, 30, .inl u191)), (h2, .inr (4, [x7, .int 0, x8]))] H := hP
  have hD : va_D A [(h0, .inr (8, [.ref h1, x1, x2, x3, x4, .int (-1), .int (-1), .ref h2, .ref h3, x5, .ref h4, x6])), (h1, .inl (aC 0, 5, .inl (fun _ => 0))), (h3, .inl (aC 1, 25, .inr (.inl (fun _ => 0)))), (h4, .inl (aC 0, 30, .inl u191)), (h2, .inr (4, [x7, .int 0, x8]))] := hD
  have hP9 := hP.sub (ws' := [(h0, .inr (8, [.ref h1, x1, x2, x3, x4, .int (-1), .int (-1), .ref h2, .ref h3, x5, .ref h4, x6])), (h1, .inl (aC 0, 5, .inl (fun _ => 0))), (h2, .inr (4, [x7, .int 0, x8])), (h3, .inl (aC 1, 25, .inr (.inl (fun _ => 0)))), (h4, .inl (aC 0, 30, .inl u191))]) [0, 1, 4, 2, 3] rfl
  have hD9 := hD.sub (ws' := [(h0, .inr (8, [.ref h1, x1, x2, x3, x4, .int (-1), .int (-1), .ref h2, .ref h3, x5, .ref h4, x6])), (h1, .inl (aC 0, 5, .inl (fun _ => 0))), (h2, .inr (4, [x7, .int 0, x8])), (h3, .inl (aC 1, 25, .inr (.inl (fun _ => 0)))), (h4, .inl (aC 0, 30, .inl u191))]) [0, 1, 4, 2, 3] (by decide) rfl
  exact rV u191 hx hb hr hlk hS trivial hP9 hD9 (Nat.le_of_ble_eq_true rfl) (Nat.le_of_ble_eq_true rfl) dX8_clear_41

set_option maxHeartbeats 4000000 in
set_option maxRecDepth 100000 in
theorem k_Town_close (l : Launch) (g : va_G) (aC : Nat → ClassId) (aM : Nat → Nat) (h0 h1 h2 h3 : Nat) (x1 x2 x3 x4 x5 x6 x8 x9 x10 : Value) (f : Nat → Int32) : Ct l g aC aM yX8_close cX8_close 2 none 3 [.ref h0] [(h0, .inr (8, [.ref h1, x1, x2, x3, x4, .int (-1), .int (-1), .ref h2, x9, x5, x10, x6])), (h1, .inl (aC 0, 5, .inl (fun _ => 0))), (h2, .inr (4, [.ref h3, .int 0, x8])), (h3, .inl (aC 0, 1000, .inl f))] (QV g (fun (u : Nat → Int32) => True) (fun (u : Nat → Int32) => [(h0, .inr (8, [.ref h1, x1, x2, x3, x4, .int 0, .int 5, .ref h2, x9, x5, x10, x6])), (h1, .inl (aC 0, 5, .inl (fun _ => 0))), (h2, .inr (4, [.ref h3, .int 1, x8])), (h3, .inl (aC 0, 1000, .inl u))])) 0 0 := by
  refine Ct.mk (by decide) (Nat.le_of_ble_eq_true rfl) ?_
  intro p e s m below meth c A ls hx hb hml hown hts hr hlk hnm hK hA hM hM2 hP hD hS hl
  have hown : s.vm.findClass RX8 = some m.cls := hown
  have F : Fx p s m _ c cX8_close 2 RX8 g aC aM A := ⟨hx, hb, hml, hown, hts, hK, hA, hM, hM2⟩
  have hl : lv_has ls 2 [(0, .ref h0)] := hl
  refine lv_aload_n hx hb dX8_close_0 rfl (lv_at hl 0 rfl) ?_
  refine xget F hP 0 rfl rfl inX8 5 (by decide) tb247 rfl dX8_close_1 ?_
  refine lv_iconst (v := (-1)) hx hb dX8_close_4 (by decide) ?_
  refine lv_icmp_ne (tgt := 13) hx hb dX8_close_5 (by decide) (fun c_ => absurd (by decide +kernel) c_) (fun _ => ?_)
  refine lv_aload_n hx hb dX8_close_8 rfl (lv_at hl 0 rfl) ?_
  refine lv_iconst (v := 0) hx hb dX8_close_9 (by decide) ?_
  refine xput F hP hD hS 0 rfl rfl inX8 tyX8_ok nmX8 5 (by decide) tb247 rfl rfl rfl (Nat.le_of_ble_eq_true rfl) dX8_close_10 (fun H locs hP hD hS => ?_)
  have hP : va_P g vwCl [(h0, .inr (8, [.ref h1, x1, x2, x3, x4, .int 0, .int (-1), .ref h2, x9, x5, x10, x6])), (h1, .inl (aC 0, 5, .inl (fun _ => 0))), (h2, .inr (4, [.ref h3, .int 0, x8])), (h3, .inl (aC 0, 1000, .inl f))] H := hP
  have hD : va_D A [(h0, .inr (8, [.ref h1, x1, x2, x3, x4, .int 0, .int (-1), .ref h2, x9, x5, x10, x6])), (h1, .inl (aC 0, 5, .inl (fun _ => 0))), (h2, .inr (4, [.ref h3, .int 0, x8])), (h3, .inl (aC 0, 1000, .inl f))] := hD
  refine lv_aload_n hx hb dX8_close_13 rfl (lv_at hl 0 rfl) ?_
  refine xget F hP 0 rfl rfl inX8 6 (by decide) tb250 rfl dX8_close_14 ?_
  refine lv_iconst (v := (-1)) hx hb dX8_close_17 (by decide) ?_
  refine lv_icmp_ne (tgt := 26) hx hb dX8_close_18 (by decide) (fun c_ => absurd (by decide +kernel) c_) (fun _ => ?_)
  refine lv_aload_n hx hb dX8_close_21 rfl (lv_at hl 0 rfl) ?_
  refine lv_iconst (v := 5) hx hb dX8_close_22 (by decide) ?_
  refine xput F hP hD hS 0 rfl rfl inX8 tyX8_ok nmX8 6 (by decide) tb250 rfl rfl rfl (Nat.le_of_ble_eq_true rfl) dX8_close_23 (fun H locs hP hD hS => ?_)
  have hP : va_P g vwCl [(h0, .inr (8, [.ref h1, x1, x2, x3, x4, .int 0, .int 5, .ref h2, x9, x5, x10, x6])), (h1, .inl (aC 0, 5, .inl (fun _ => 0))), (h2, .inr (4, [.ref h3, .int 0, x8])), (h3, .inl (aC 0, 1000, .inl f))] H := hP
  have hD : va_D A [(h0, .inr (8, [.ref h1, x1, x2, x3, x4, .int 0, .int 5, .ref h2, x9, x5, x10, x6])), (h1, .inl (aC 0, 5, .inl (fun _ => 0))), (h2, .inr (4, [.ref h3, .int 0, x8])), (h3, .inl (aC 0, 1000, .inl f))] := hD
  refine lv_aload_n hx hb dX8_close_26 rfl (lv_at hl 0 rfl) ?_
  refine xget F hP 0 rfl rfl inX8 7 (by decide) tb253 rfl dX8_close_27 ?_
  refine goI (wr := [(h0, .inr (8, [.ref h1, x1, x2, x3, x4, .int 0, .int 5, .ref h2, x9, x5, x10, x6])), (h1, .inl (aC 0, 5, .inl (fun _ => 0))), (h3, .inl (aC 0, 1000, .inl f))]) (runV (n := 0) (As := []) (rest := []) F hP hD hS (k_Price_isTold0 l g aC aM h2 (.ref h3) x8) [2] (by decide) rfl 2 4 rfl rfl rfl tb214 tb211 tb212 tb213 tb10 ⟨by decide, by decide, by decide +kernel⟩ ⟨Nat.le_of_ble_eq_true rfl, Nat.le_of_ble_eq_true rfl⟩ rfl hl.1 rfl (Nat.le_of_ble_eq_true rfl) dX8_close_30 ⟨Nat.le_of_ble_eq_true rfl, Nat.le_of_ble_eq_true rfl⟩) hP hD hS hA [2] [0, 1, 3] rfl rfl (by decide) (by decide) (fun r_201 w202 H locs hw hP hD hS => ?_)
  have hP : va_P g vwCl [(h0, .inr (8, [.ref h1, x1, x2, x3, x4, .int 0, .int 5, .ref h2, x9, x5, x10, x6])), (h1, .inl (aC 0, 5, .inl (fun _ => 0))), (h3, .inl (aC 0, 1000, .inl f)), (h2, .inr (4, [.ref h3, .int 0, x8]))] H := hP
  have hD : va_D A [(h0, .inr (8, [.ref h1, x1, x2, x3, x4, .int 0, .int 5, .ref h2, x9, x5, x10, x6])), (h1, .inl (aC 0, 5, .inl (fun _ => 0))), (h3, .inl (aC 0, 1000, .inl f)), (h2, .inr (4, [.ref h3, .int 0, x8]))] := hD
  try dsimp only at hw
  subst hw
  refine lv_if_ne (tgt := 43) hx hb dX8_close_33 (by decide) (fun c_ => absurd (by decide +kernel) c_) (fun _ => ?_)
  refine lv_aload_n hx hb dX8_close_36 rfl (lv_at hl 0 rfl) ?_
  refine xget F hP 0 rfl rfl inX8 7 (by decide) tb253 rfl dX8_close_37 ?_
  refine goV (wr := [(h0, .inr (8, [.ref h1, x1, x2, x3, x4, .int 0, .int 5, .ref h2, x9, x5, x10, x6])), (h1, .inl (aC 0, 5, .inl (fun _ => 0)))]) (runV (n := 0) (As := []) (rest := []) F hP hD hS (k_Price_beHigh l g aC aM h2 h3 x8 f) [3, 2] (by decide) rfl 3 4 rfl rfl rfl tb218 tb215 tb216 tb217 tb10 ⟨by decide, by decide, by decide +kernel⟩ ⟨Nat.le_of_ble_eq_true rfl, Nat.le_of_ble_eq_true rfl⟩ rfl hl.1 rfl (Nat.le_of_ble_eq_true rfl) dX8_close_40 ⟨Nat.le_of_ble_eq_true rfl, Nat.le_of_ble_eq_true rfl⟩) hP hD hS hA [3, 2] [0, 1] rfl rfl (by decide) (by decide) (fun w207 H locs hw hP hD hS => ?_)
  obtain ⟨u204, rfl⟩ : ∃ z_, z_ = w207 := ⟨_, rfl⟩
  have hP : va_P g vwCl [(h0, .inr (8, [.ref h1, x1, x2, x3, x4, .int 0, .int 5, .ref h2, x9, x5, x10, x6])), (h1, .inl (aC 0, 5, .inl (fun _ => 0))), (h2, .inr (4, [.ref h3, .int 1, x8])), (h3, .inl (aC 0, 1000, .inl u204))] H := hP
  have hD : va_D A [(h0, .inr (8, [.ref h1, x1, x2, x3, x4, .int 0, .int 5, .ref h2, x9, x5, x10, x6])), (h1, .inl (aC 0, 5, .inl (fun _ => 0))), (h2, .inr (4, [.ref h3, .int 1, x8])), (h3, .inl (aC 0, 1000, .inl u204))] := hD
  refine lv_iconst (v := 0) hx hb dX8_close_43 (by decide) ?_
  refine lv_istore_n (lv' := [(1, .int 0), (0, .ref h0)]) hx hb dX8_close_44 rfl hl (by decide) rfl (fun ls hl => ?_)
  refine lv_iload_n hx hb dX8_close_45 rfl (lv_at hl 0 rfl) ?_
  refine lv_aload_n hx hb dX8_close_46 rfl (lv_at hl 1 rfl) ?_
  refine xget F hP 0 rfl rfl inX8 0 (by decide) tb227 rfl dX8_close_47 ?_
  refine lv_iconst (v := 1) hx hb dX8_close_50 (by decide) ?_
  refine xilo (v := 0) F hP 1 rfl 1 (by decide +kernel) (by decide +kernel) (by decide) (by decide +kernel) dX8_close_51 ?_
  refine lv_icmp_ge (tgt := 72) hx hb dX8_close_52 (by decide) (fun _ => ?_) (fun c_ => absurd (by decide +kernel) c_)
  have hP9 := hP.sub (ws' := [(h0, .inr (8, [.ref h1, x1, x2, x3, x4, .int 0, .int 5, .ref h2, x9, x5, x10, x6])), (h1, .inl (aC 0, 5, .inl (fun _ => 0))), (h2, .inr (4, [.ref h3, .int 1, x8])), (h3, .inl (aC 0, 1000, .inl u204))]) [0, 1, 2, 3] rfl
  have hD9 := hD.sub (ws' := [(h0, .inr (8, [.ref h1, x1, x2, x3, x4, .int 0, .int 5, .ref h2, x9, x5, x10, x6])), (h1, .inl (aC 0, 5, .inl (fun _ => 0))), (h2, .inr (4, [.ref h3, .int 1, x8])), (h3, .inl (aC 0, 1000, .inl u204))]) [0, 1, 2, 3] (by decide) rfl
  exact rV u204 hx hb hr hlk hS trivial hP9 hD9 (Nat.le_of_ble_eq_true rfl) (Nat.le_of_ble_eq_true rfl) dX8_close_72
