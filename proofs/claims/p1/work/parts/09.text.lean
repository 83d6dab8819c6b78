set_option maxHeartbeats 4000000 in
set_option maxRecDepth 100000 in
theorem k_coder0 (l : Launch) (g : va_G) (aC : Nat → ClassId) (aM : Nat → Nat)  : Ct l g aC aM yJ0_coder_7d493 cJ0_coder_7d493 1 (some .byte) 1 [.ref (aM (1 + 0))] [] (QI g (fun (r : Int32) (_ : Unit) => r = 0) (fun (_ : Unit) => [])) 0 0 := by
  refine Ct.mk (by decide) (Nat.le_of_ble_eq_true rfl) ?_
  intro p e s m below meth c A ls hx hb hml hown hts hr hlk hnm hK hA hM hM2 hP hD hS hl
  have hown : s.vm.findClass RJ0 = some m.cls := hown
  have F : Fx p s m _ c cJ0_coder_7d493 1 RJ0 g aC aM A := ⟨hx, hb, hml, hown, hts, hK, hA, hM, hM2⟩
  have hl : lv_has ls 1 [(0, .ref (aM (1 + 0)))] := hl
  refine va_gets hx hb hM.2.2.1 hS hown (hts _ tb53) (fun _ h => h) dJ0_coder_7d493_0 ?_
  refine lv_if_eq (tgt := 13) hx hb dJ0_coder_7d493_3 (by decide) (fun c_ => absurd c_ (by decide +kernel)) (fun _ => ?_)
  refine lv_aload_n hx hb dJ0_coder_7d493_6 rfl (lv_at hl 0 rfl) ?_
  refine vk_getf hx hb (hM.2.2.2.1.1 0 (by decide)).2.1 hS hown (hts _ tb1940) (fun _ h => h) dJ0_coder_7d493_7 ?_
  refine lv_goto (tgt := 14) hx hb dJ0_coder_7d493_10 (by decide) ?_
  have hP9 := hP.sub (ws' := []) [] rfl
  have hD9 := hD.sub (ws' := []) [] (by decide) rfl
  exact rI () hx hb hr hlk rfl hS rfl hP9 hD9 (Nat.le_of_ble_eq_true rfl) (Nat.le_of_ble_eq_true rfl) dJ0_coder_7d493_14

set_option maxHeartbeats 4000000 in
set_option maxRecDepth 100000 in
theorem k_latin0 (l : Launch) (g : va_G) (aC : Nat → ClassId) (aM : Nat → Nat)  : Ct l g aC aM yJ0_isLatin1_aae02 cJ0_isLatin1_aae02 1 (some .boolean) 1 [.ref (aM (1 + 0))] [] (QI g (fun (r : Int32) (_ : Unit) => r = 1) (fun (_ : Unit) => [])) 0 0 := by
  refine Ct.mk (by decide) (Nat.le_of_ble_eq_true rfl) ?_
  intro p e s m below meth c A ls hx hb hml hown hts hr hlk hnm hK hA hM hM2 hP hD hS hl
  have hown : s.vm.findClass RJ0 = some m.cls := hown
  have F : Fx p s m _ c cJ0_isLatin1_aae02 1 RJ0 g aC aM A := ⟨hx, hb, hml, hown, hts, hK, hA, hM, hM2⟩
  have hl : lv_has ls 1 [(0, .ref (aM (1 + 0)))] := hl
  refine va_gets hx hb hM.2.2.1 hS hown (hts _ tb53) (fun _ h => h) dJ0_isLatin1_aae02_0 ?_
  refine lv_if_eq (tgt := 17) hx hb dJ0_isLatin1_aae02_3 (by decide) (fun c_ => absurd c_ (by decide +kernel)) (fun _ => ?_)
  refine lv_aload_n hx hb dJ0_isLatin1_aae02_6 rfl (lv_at hl 0 rfl) ?_
  refine vk_getf hx hb (hM.2.2.2.1.1 0 (by decide)).2.1 hS hown (hts _ tb1940) (fun _ h => h) dJ0_isLatin1_aae02_7 ?_
  refine lv_if_ne (tgt := 17) hx hb dJ0_isLatin1_aae02_10 (by decide) (fun c_ => absurd (by decide +kernel) c_) (fun _ => ?_)
  refine lv_iconst (v := 1) hx hb dJ0_isLatin1_aae02_13 (by decide) ?_
  refine lv_goto (tgt := 18) hx hb dJ0_isLatin1_aae02_14 (by decide) ?_
  have hP9 := hP.sub (ws' := []) [] rfl
  have hD9 := hD.sub (ws' := []) [] (by decide) rfl
  exact rI () hx hb hr hlk rfl hS rfl hP9 hD9 (Nat.le_of_ble_eq_true rfl) (Nat.le_of_ble_eq_true rfl) dJ0_isLatin1_aae02_18

set_option maxHeartbeats 4000000 in
set_option maxRecDepth 100000 in
theorem k_length0 (l : Launch) (g : va_G) (aC : Nat → ClassId) (aM : Nat → Nat)  : Ct l g aC aM yJ0_length_8abf5 cJ0_length_8abf5 1 (some .int) 2 [.ref (aM (1 + 0))] [] (QI g (fun (r : Int32) (_ : Unit) => r = 97) (fun (_ : Unit) => [])) 0 0 := by
  refine Ct.mk (by decide) (Nat.le_of_ble_eq_true rfl) ?_
  intro p e s m below meth c A ls hx hb hml hown hts hr hlk hnm hK hA hM hM2 hP hD hS hl
  have hown : s.vm.findClass RJ0 = some m.cls := hown
  have F : Fx p s m _ c cJ0_length_8abf5 1 RJ0 g aC aM A := ⟨hx, hb, hml, hown, hts, hK, hA, hM, hM2⟩
  have hl : lv_has ls 1 [(0, .ref (aM (1 + 0)))] := hl
  refine lv_aload_n hx hb dJ0_length_8abf5_0 rfl (lv_at hl 0 rfl) ?_
  refine vk_getf hx hb (hM.2.2.2.1.1 0 (by decide)).2.2.1 hS hown (hts _ tb1939) (fun _ h => h) dJ0_length_8abf5_1 ?_
  refine va_tlen (v := 97) hx hb (hM.2.2.2.1.1 0 (by decide)).2.2.2 hS rfl dJ0_length_8abf5_4 ?_
  refine lv_aload_n hx hb dJ0_length_8abf5_5 rfl (lv_at hl 0 rfl) ?_
  refine goI (wr := []) (runVs (n := 0) (As := []) (rest := [.int 97]) F hP hD hS (k_coder0 l g aC aM ) [] (by decide) rfl 0 (by decide) rfl rfl tb52 tb49 tb50 tb51 tb3 ⟨by decide, by decide, by decide +kernel⟩ ⟨Nat.le_of_ble_eq_true rfl, Nat.le_of_ble_eq_true rfl⟩ rfl hl.1 rfl (Nat.le_of_ble_eq_true rfl) dJ0_length_8abf5_6 ⟨Nat.le_of_ble_eq_true rfl, Nat.le_of_ble_eq_true rfl⟩) hP hD hS hA [] [] rfl rfl (by decide) (by decide) (fun r_5 w6 H locs hw hP hD hS => ?_)
  have hP : va_P g vwCl [] H := hP
  have hD : va_D A [] := hD
  try dsimp only at hw
  subst hw
  refine lv_ishr hx hb dJ0_length_8abf5_9 ?_
  refine relit (v := 97) (by decide +kernel) ?_
  have hP9 := hP.sub (ws' := []) [] rfl
  have hD9 := hD.sub (ws' := []) [] (by decide) rfl
  exact rI () hx hb hr hlk rfl hS rfl hP9 hD9 (Nat.le_of_ble_eq_true rfl) (Nat.le_of_ble_eq_true rfl) dJ0_length_8abf5_10

set_option maxHeartbeats 4000000 in
set_option maxRecDepth 100000 in
theorem k_pci0n (l : Launch) (g : va_G) (aC : Nat → ClassId) (aM : Nat → Nat) (j : Nat) (hj : j < 97) : Ct l g aC aM yJ3_checkIndex_8e157 cJ3_checkIndex_8e157 3 (some .int) 1 [.int (nI j), .int 97, .null] [] (QI g (fun (r : Int32) (_ : Unit) => r = (nI j)) (fun (_ : Unit) => [])) 0 0 := by
  refine Ct.mk (by decide) (Nat.le_of_ble_eq_true rfl) ?_
  intro p e s m below meth c A ls hx hb hml hown hts hr hlk hnm hK hA hM hM2 hP hD hS hl
  have hown : s.vm.findClass RJ3 = some m.cls := hown
  have F : Fx p s m _ c cJ3_checkIndex_8e157 3 RJ3 g aC aM A := ⟨hx, hb, hml, hown, hts, hK, hA, hM, hM2⟩
  have hl : lv_has ls 3 [(0, .int (nI j)), (1, .int 97), (2, .null)] := hl
  refine lv_iload_n hx hb dJ3_checkIndex_8e157_0 rfl (lv_at hl 0 rfl) ?_
  refine lv_if_lt (tgt := 9) hx hb dJ3_checkIndex_8e157_1 (by decide) (fun c_ => absurd c_ (show ¬ (nI j < nI 0) by rw [nI_ltI (by omega) (by omega)]; omega)) (fun _ => ?_)
  refine lv_iload_n hx hb dJ3_checkIndex_8e157_4 rfl (lv_at hl 0 rfl) ?_
  refine lv_iload_n hx hb dJ3_checkIndex_8e157_5 rfl (lv_at hl 1 rfl) ?_
  refine lv_icmp_lt (tgt := 16) hx hb dJ3_checkIndex_8e157_6 (by decide) (fun _ => ?_) (fun c_ => absurd (show nI j < nI 97 by rw [nI_ltI (by omega) (by omega)]; omega) c_)
  refine lv_iload_n hx hb dJ3_checkIndex_8e157_16 rfl (lv_at hl 0 rfl) ?_
  have hP9 := hP.sub (ws' := []) [] rfl
  have hD9 := hD.sub (ws' := []) [] (by decide) rfl
  exact rI () hx hb hr hlk rfl hS rfl hP9 hD9 (Nat.le_of_ble_eq_true rfl) (Nat.le_of_ble_eq_true rfl) dJ3_checkIndex_8e157_17

set_option maxHeartbeats 4000000 in
set_option maxRecDepth 100000 in
theorem k_pci0r (l : Launch) (g : va_G) (aC : Nat → ClassId) (aM : Nat → Nat) (tz : Nat) (j : Nat) (hj : j < 97) : Ct l g aC aM yJ3_checkIndex_8e157 cJ3_checkIndex_8e157 3 (some .int) 1 [.int (nI j), .int 97, .ref tz] [] (QI g (fun (r : Int32) (_ : Unit) => r = (nI j)) (fun (_ : Unit) => [])) 0 0 := by
  refine Ct.mk (by decide) (Nat.le_of_ble_eq_true rfl) ?_
  intro p e s m below meth c A ls hx hb hml hown hts hr hlk hnm hK hA hM hM2 hP hD hS hl
  have hown : s.vm.findClass RJ3 = some m.cls := hown
  have F : Fx p s m _ c cJ3_checkIndex_8e157 3 RJ3 g aC aM A := ⟨hx, hb, hml, hown, hts, hK, hA, hM, hM2⟩
  have hl : lv_has ls 3 [(0, .int (nI j)), (1, .int 97), (2, .ref tz)] := hl
  refine lv_iload_n hx hb dJ3_checkIndex_8e157_0 rfl (lv_at hl 0 rfl) ?_
  refine lv_if_lt (tgt := 9) hx hb dJ3_checkIndex_8e157_1 (by decide) (fun c_ => absurd c_ (show ¬ (nI j < nI 0) by rw [nI_ltI (by omega) (by omega)]; omega)) (fun _ => ?_)
  refine lv_iload_n hx hb dJ3_checkIndex_8e157_4 rfl (lv_at hl 0 rfl) ?_
  refine lv_iload_n hx hb dJ3_checkIndex_8e157_5 rfl (lv_at hl 1 rfl) ?_
  refine lv_icmp_lt (tgt := 16) hx hb dJ3_checkIndex_8e157_6 (by decide) (fun _ => ?_) (fun c_ => absurd (show nI j < nI 97 by rw [nI_ltI (by omega) (by omega)]; omega) c_)
  refine lv_iload_n hx hb dJ3_checkIndex_8e157_16 rfl (lv_at hl 0 rfl) ?_
  have hP9 := hP.sub (ws' := []) [] rfl
  have hD9 := hD.sub (ws' := []) [] (by decide) rfl
  exact rI () hx hb hr hlk rfl hS rfl hP9 hD9 (Nat.le_of_ble_eq_true rfl) (Nat.le_of_ble_eq_true rfl) dJ3_checkIndex_8e157_17

set_option maxHeartbeats 4000000 in
set_option maxRecDepth 100000 in
theorem k_ci0 (l : Launch) (g : va_G) (aC : Nat → ClassId) (aM : Nat → Nat) (j : Nat) (hj : j < 97) : Ct l g aC aM yJ0_checkIndex_df160 cJ0_checkIndex_df160 2 none 2 [.int (nI j), .int 97] [] (QV g (fun (_ : Unit) => True) (fun (_ : Unit) => [])) 0 0 := by
  refine Ct.mk (by decide) (Nat.le_of_ble_eq_true rfl) ?_
  intro p e s m below meth c A ls hx hb hml hown hts hr hlk hnm hK hA hM hM2 hP hD hS hl
  have hown : s.vm.findClass RJ0 = some m.cls := hown
  have F : Fx p s m _ c cJ0_checkIndex_df160 2 RJ0 g aC aM A := ⟨hx, hb, hml, hown, hts, hK, hA, hM, hM2⟩
  have hl : lv_has ls 2 [(0, .int (nI j)), (1, .int 97)] := hl
  refine lv_iload_n hx hb dJ0_checkIndex_df160_0 rfl (lv_at hl 0 rfl) ?_
  refine lv_iload_n hx hb dJ0_checkIndex_df160_1 rfl (lv_at hl 1 rfl) ?_
  rcases hM.2.2.2.2 with hz | ⟨tz, hz⟩
  · refine va_gets hx hb hz hS hown (hts _ tb69) (fun _ h => h) dJ0_checkIndex_df160_2 ?_
    refine goI (wr := []) (runS (n := 3) (As := [.int (nI j), .int 97, .null]) (rest := []) F hP hD hS (k_pci0n l g aC aM j (by omega)) [] (by decide) rfl tb73 tb71 tb72 tb5 ⟨by decide, by decide, by decide +kernel⟩ ⟨Nat.le_of_ble_eq_true rfl, Nat.le_of_ble_eq_true rfl⟩ rfl hl.1 rfl (Nat.le_of_ble_eq_true rfl) dJ0_checkIndex_df160_5 ⟨Nat.le_of_ble_eq_true rfl, Nat.le_of_ble_eq_true rfl⟩) hP hD hS hA [] [] rfl rfl (by decide) (by decide) (fun r_8 w9 H locs hw hP hD hS => ?_)
    have hP : va_P g vwCl [] H := hP
    have hD : va_D A [] := hD
    try dsimp only at hw
    subst hw
    refine lv_pop hx hb dJ0_checkIndex_df160_8 rfl ?_
    have hP9 := hP.sub (ws' := []) [] rfl
    have hD9 := hD.sub (ws' := []) [] (by decide) rfl
    exact rV () hx hb hr hlk hS trivial hP9 hD9 (Nat.le_of_ble_eq_true rfl) (Nat.le_of_ble_eq_true rfl) dJ0_checkIndex_df160_9
  · refine va_gets hx hb hz hS hown (hts _ tb69) (fun _ h => h) dJ0_checkIndex_df160_2 ?_
    refine goI (wr := []) (runS (n := 3) (As := [.int (nI j), .int 97, .ref tz]) (rest := []) F hP hD hS (k_pci0r l g aC aM tz j (by omega)) [] (by decide) rfl tb73 tb71 tb72 tb5 ⟨by decide, by decide, by decide +kernel⟩ ⟨Nat.le_of_ble_eq_true rfl, Nat.le_of_ble_eq_true rfl⟩ rfl hl.1 rfl (Nat.le_of_ble_eq_true rfl) dJ0_checkIndex_df160_5 ⟨Nat.le_of_ble_eq_true rfl, Nat.le_of_ble_eq_true rfl⟩) hP hD hS hA [] [] rfl rfl (by decide) (by decide) (fun r_11 w12 H locs hw hP hD hS => ?_)
    have hP : va_P g vwCl [] H := hP
    have hD : va_D A [] := hD
    try dsimp only at hw
    subst hw
    refine lv_pop hx hb dJ0_checkIndex_df160_8 rfl ?_
    have hP9 := hP.sub (ws' := []) [] rfl
    have hD9 := hD.sub (ws' := []) [] (by decide) rfl
    exact rV () hx hb hr hlk hS trivial hP9 hD9 (Nat.le_of_ble_eq_true rfl) (Nat.le_of_ble_eq_true rfl) dJ0_checkIndex_df160_9

set_option maxHeartbeats 4000000 in
set_option maxRecDepth 100000 in
theorem k_lcharAt0 (l : Launch) (g : va_G) (aC : Nat → ClassId) (aM : Nat → Nat) (j : Nat) (hj : j < 97) : Ct l g aC aM yJ1_charAt_3b067 cJ1_charAt_3b067 2 (some .char) 3 [.ref (aM (7 + 0)), .int (nI j)] [] (QI g (fun (r : Int32) (_ : Unit) => narrow .char (.int r) = .int r) (fun (_ : Unit) => [])) 0 0 := by
  refine Ct.mk (by decide) (Nat.le_of_ble_eq_true rfl) ?_
  intro p e s m below meth c A ls hx hb hml hown hts hr hlk hnm hK hA hM hM2 hP hD hS hl
  have hown : s.vm.findClass RJ1 = some m.cls := hown
  have F : Fx p s m _ c cJ1_charAt_3b067 2 RJ1 g aC aM A := ⟨hx, hb, hml, hown, hts, hK, hA, hM, hM2⟩
  have hl : lv_has ls 2 [(0, .ref (aM (7 + 0))), (1, .int (nI j))] := hl
  refine lv_iload_n hx hb dJ1_charAt_3b067_0 rfl (lv_at hl 1 rfl) ?_
  refine lv_aload_n hx hb dJ1_charAt_3b067_1 rfl (lv_at hl 0 rfl) ?_
  refine va_tlen (v := 97) hx hb (hM.2.2.2.1.1 0 (by decide)).2.2.2 hS rfl dJ1_charAt_3b067_2 ?_
  refine goV (wr := []) (runS (n := 2) (As := [.int (nI j), .int 97]) (rest := []) F hP hD hS (k_ci0 l g aC aM j (by omega)) [] (by decide) rfl tb68 tb66 tb67 tb3 ⟨by decide, by decide, by decide +kernel⟩ ⟨Nat.le_of_ble_eq_true rfl, Nat.le_of_ble_eq_true rfl⟩ rfl hl.1 rfl (Nat.le_of_ble_eq_true rfl) dJ1_charAt_3b067_3 ⟨Nat.le_of_ble_eq_true rfl, Nat.le_of_ble_eq_true rfl⟩) hP hD hS hA [] [] rfl rfl (by decide) (by decide) (fun w15 H locs hw hP hD hS => ?_)
  have hP : va_P g vwCl [] H := hP
  have hD : va_D A [] := hD
  refine lv_aload_n hx hb dJ1_charAt_3b067_6 rfl (lv_at hl 0 rfl) ?_
  refine lv_iload_n hx hb dJ1_charAt_3b067_7 rfl (lv_at hl 1 rfl) ?_
  obtain ⟨b16, eb16⟩ : ∃ z : Int32, ((stB.getD 0 []).getD j 0) = z := ⟨_, rfl⟩
  refine va_tb (v := .int b16) hx hb (hM.2.2.2.1.1 0 (by decide)).2.2.2 hS (vpin (nI_pos (by omega)) (nI_clamp (by omega)) (show j < 97 by omega)) (by rw [nI_clamp (by omega), eb16]) dJ1_charAt_3b067_8 ?_
  refine lv_sipush (v := 255) hx hb dJ1_charAt_3b067_9 (by decide) ?_
  refine lv_iand hx hb dJ1_charAt_3b067_12 ?_
  refine lv_i2c (v := (((b16 &&& 255).toUInt32 % 65536).toInt32)) hx hb dJ1_charAt_3b067_13 rfl ?_
  have hP9 := hP.sub (ws' := []) [] rfl
  have hD9 := hD.sub (ws' := []) [] (by decide) rfl
  exact rI () hx hb hr hlk (pk_nc _) hS (pk_nc _) hP9 hD9 (Nat.le_of_ble_eq_true rfl) (Nat.le_of_ble_eq_true rfl) dJ1_charAt_3b067_14

set_option maxHeartbeats 4000000 in
set_option maxRecDepth 100000 in
theorem k_charAt0 (l : Launch) (g : va_G) (aC : Nat → ClassId) (aM : Nat → Nat) (j : Nat) (hj : j < 97) : Ct l g aC aM yJ0_charAt_5068e cJ0_charAt_5068e 2 (some .char) 4 [.ref (aM (1 + 0)), .int (nI j)] [] (QI g (fun (r : Int32) (_ : Unit) => True) (fun (_ : Unit) => [])) 0 0 := by
  refine Ct.mk (by decide) (Nat.le_of_ble_eq_true rfl) ?_
  intro p e s m below meth c A ls hx hb hml hown hts hr hlk hnm hK hA hM hM2 hP hD hS hl
  have hown : s.vm.findClass RJ0 = some m.cls := hown
  have F : Fx p s m _ c cJ0_charAt_5068e 2 RJ0 g aC aM A := ⟨hx, hb, hml, hown, hts, hK, hA, hM, hM2⟩
  have hl : lv_has ls 2 [(0, .ref (aM (1 + 0))), (1, .int (nI j))] := hl
  refine lv_aload_n hx hb dJ0_charAt_5068e_0 rfl (lv_at hl 0 rfl) ?_
  refine goI (wr := []) (runVs (n := 0) (As := []) (rest := []) F hP hD hS (k_latin0 l g aC aM ) [] (by decide) rfl 0 (by decide) rfl rfl tb62 tb59 tb60 tb61 tb3 ⟨by decide, by decide, by decide +kernel⟩ ⟨Nat.le_of_ble_eq_true rfl, Nat.le_of_ble_eq_true rfl⟩ rfl hl.1 rfl (Nat.le_of_ble_eq_true rfl) dJ0_charAt_5068e_1 ⟨Nat.le_of_ble_eq_true rfl, Nat.le_of_ble_eq_true rfl⟩) hP hD hS hA [] [] rfl rfl (by decide) (by decide) (fun r_18 w19 H locs hw hP hD hS => ?_)
  have hP : va_P g vwCl [] H := hP
  have hD : va_D A [] := hD
  try dsimp only at hw
  subst hw
  refine lv_if_eq (tgt := 16) hx hb dJ0_charAt_5068e_4 (by decide) (fun c_ => absurd c_ (by decide +kernel)) (fun _ => ?_)
  refine lv_aload_n hx hb dJ0_charAt_5068e_7 rfl (lv_at hl 0 rfl) ?_
  refine vk_getf hx hb (hM.2.2.2.1.1 0 (by decide)).2.2.1 hS hown (hts _ tb1939) (fun _ h => h) dJ0_charAt_5068e_8 ?_
  refine lv_iload_n hx hb dJ0_charAt_5068e_11 rfl (lv_at hl 1 rfl) ?_
  refine goI (wr := []) (runS (n := 2) (As := [.ref (aM (7 + 0)), .int (nI j)]) (rest := []) F hP hD hS (k_lcharAt0 l g aC aM j (by omega)) [] (by decide) rfl tb65 tb63 tb64 tb4 ⟨by decide, by decide, by decide +kernel⟩ ⟨Nat.le_of_ble_eq_true rfl, Nat.le_of_ble_eq_true rfl⟩ rfl hl.1 rfl (Nat.le_of_ble_eq_true rfl) dJ0_charAt_5068e_12 ⟨Nat.le_of_ble_eq_true rfl, Nat.le_of_ble_eq_true rfl⟩) hP hD hS hA [] [] rfl rfl (by decide) (by decide) (fun r_22 w23 H locs hw hP hD hS => ?_)
  have hP : va_P g vwCl [] H := hP
  have hD : va_D A [] := hD
  have x24 := hw
  have hP9 := hP.sub (ws' := []) [] rfl
  have hD9 := hD.sub (ws' := []) [] (by decide) rfl
  exact rI () hx hb hr hlk x24 hS trivial hP9 hD9 (Nat.le_of_ble_eq_true rfl) (Nat.le_of_ble_eq_true rfl) dJ0_charAt_5068e_15

set_option maxHeartbeats 4000000 in
set_option maxRecDepth 100000 in
theorem k_coder1 (l : Launch) (g : va_G) (aC : Nat → ClassId) (aM : Nat → Nat)  : Ct l g aC aM yJ0_coder_7d493 cJ0_coder_7d493 1 (some .byte) 1 [.ref (aM (1 + 1))] [] (QI g (fun (r : Int32) (_ : Unit) => r = 0) (fun (_ : Unit) => [])) 0 0 := by
  refine Ct.mk (by decide) (Nat.le_of_ble_eq_true rfl) ?_
  intro p e s m below meth c A ls hx hb hml hown hts hr hlk hnm hK hA hM hM2 hP hD hS hl
  have hown : s.vm.findClass RJ0 = some m.cls := hown
  have F : Fx p s m _ c cJ0_coder_7d493 1 RJ0 g aC aM A := ⟨hx, hb, hml, hown, hts, hK, hA, hM, hM2⟩
  have hl : lv_has ls 1 [(0, .ref (aM (1 + 1)))] := hl
  refine va_gets hx hb hM.2.2.1 hS hown (hts _ tb53) (fun _ h => h) dJ0_coder_7d493_0 ?_
  refine lv_if_eq (tgt := 13) hx hb dJ0_coder_7d493_3 (by decide) (fun c_ => absurd c_ (by decide +kernel)) (fun _ => ?_)
  refine lv_aload_n hx hb dJ0_coder_7d493_6 rfl (lv_at hl 0 rfl) ?_
  refine vk_getf hx hb (hM.2.2.2.1.1 1 (by decide)).2.1 hS hown (hts _ tb1940) (fun _ h => h) dJ0_coder_7d493_7 ?_
  refine lv_goto (tgt := 14) hx hb dJ0_coder_7d493_10 (by decide) ?_
  have hP9 := hP.sub (ws' := []) [] rfl
  have hD9 := hD.sub (ws' := []) [] (by decide) rfl
  exact rI () hx hb hr hlk rfl hS rfl hP9 hD9 (Nat.le_of_ble_eq_true rfl) (Nat.le_of_ble_eq_true rfl) dJ0_coder_7d493_14

set_option maxHeartbeats 4000000 in
set_option maxRecDepth 100000 in
theorem k_latin1 (l : Launch) (g : va_G) (aC : Nat → ClassId) (aM : Nat → Nat)  : Ct l g aC aM yJ0_isLatin1_aae02 cJ0_isLatin1_aae02 1 (some .boolean) 1 [.ref (aM (1 + 1))] [] (QI g (fun (r : Int32) (_ : Unit) => r = 1) (fun (_ : Unit) => [])) 0 0 := by
  refine Ct.mk (by decide) (Nat.le_of_ble_eq_true rfl) ?_
  intro p e s m below meth c A ls hx hb hml hown hts hr hlk hnm hK hA hM hM2 hP hD hS hl
  have hown : s.vm.findClass RJ0 = some m.cls := hown
  have F : Fx p s m _ c cJ0_isLatin1_aae02 1 RJ0 g aC aM A := ⟨hx, hb, hml, hown, hts, hK, hA, hM, hM2⟩
  have hl : lv_has ls 1 [(0, .ref (aM (1 + 1)))] := hl
  refine va_gets hx hb hM.2.2.1 hS hown (hts _ tb53) (fun _ h => h) dJ0_isLatin1_aae02_0 ?_
  refine lv_if_eq (tgt := 17) hx hb dJ0_isLatin1_aae02_3 (by decide) (fun c_ => absurd c_ (by decide +kernel)) (fun _ => ?_)
  refine lv_aload_n hx hb dJ0_isLatin1_aae02_6 rfl (lv_at hl 0 rfl) ?_
  refine vk_getf hx hb (hM.2.2.2.1.1 1 (by decide)).2.1 hS hown (hts _ tb1940) (fun _ h => h) dJ0_isLatin1_aae02_7 ?_
  refine lv_if_ne (tgt := 17) hx hb dJ0_isLatin1_aae02_10 (by decide) (fun c_ => absurd (by decide +kernel) c_) (fun _ => ?_)
  refine lv_iconst (v := 1) hx hb dJ0_isLatin1_aae02_13 (by decide) ?_
  refine lv_goto (tgt := 18) hx hb dJ0_isLatin1_aae02_14 (by decide) ?_
  have hP9 := hP.sub (ws' := []) [] rfl
  have hD9 := hD.sub (ws' := []) [] (by decide) rfl
  exact rI () hx hb hr hlk rfl hS rfl hP9 hD9 (Nat.le_of_ble_eq_true rfl) (Nat.le_of_ble_eq_true rfl) dJ0_isLatin1_aae02_18

set_option maxHeartbeats 4000000 in
set_option maxRecDepth 100000 in
theorem k_length1 (l : Launch) (g : va_G) (aC : Nat → ClassId) (aM : Nat → Nat)  : Ct l g aC aM yJ0_length_8abf5 cJ0_length_8abf5 1 (some .int) 2 [.ref (aM (1 + 1))] [] (QI g (fun (r : Int32) (_ : Unit) => r = 38) (fun (_ : Unit) => [])) 0 0 := by
  refine Ct.mk (by decide) (Nat.le_of_ble_eq_true rfl) ?_
  intro p e s m below meth c A ls hx hb hml hown hts hr hlk hnm hK hA hM hM2 hP hD hS hl
  have hown : s.vm.findClass RJ0 = some m.cls := hown
  have F : Fx p s m _ c cJ0_length_8abf5 1 RJ0 g aC aM A := ⟨hx, hb, hml, hown, hts, hK, hA, hM, hM2⟩
  have hl : lv_has ls 1 [(0, .ref (aM (1 + 1)))] := hl
  refine lv_aload_n hx hb dJ0_length_8abf5_0 rfl (lv_at hl 0 rfl) ?_
  refine vk_getf hx hb (hM.2.2.2.1.1 1 (by decide)).2.2.1 hS hown (hts _ tb1939) (fun _ h => h) dJ0_length_8abf5_1 ?_
  refine va_tlen (v := 38) hx hb (hM.2.2.2.1.1 1 (by decide)).2.2.2 hS rfl dJ0_length_8abf5_4 ?_
  refine lv_aload_n hx hb dJ0_length_8abf5_5 rfl (lv_at hl 0 rfl) ?_
  refine goI (wr := []) (runVs (n := 0) (As := []) (rest := [.int 38]) F hP hD hS (k_coder1 l g aC aM ) [] (by decide) rfl 1 (by decide) rfl rfl tb52 tb49 tb50 tb51 tb3 ⟨by decide, by decide, by decide +kernel⟩ ⟨Nat.le_of_ble_eq_true rfl, Nat.le_of_ble_eq_true rfl⟩ rfl hl.1 rfl (Nat.le_of_ble_eq_true rfl) dJ0_length_8abf5_6 ⟨Nat.le_of_ble_eq_true rfl, Nat.le_of_ble_eq_true rfl⟩) hP hD hS hA [] [] rfl rfl (by decide) (by decide) (fun r_29 w30 H locs hw hP hD hS => ?_)
  have hP : va_P g vwCl [] H := hP
  have hD : va_D A [] := hD
  try dsimp only at hw
  subst hw
  refine lv_ishr hx hb dJ0_length_8abf5_9 ?_
  refine relit (v := 38) (by decide +kernel) ?_
  have hP9 := hP.sub (ws' := []) [] rfl
  have hD9 := hD.sub (ws' := []) [] (by decide) rfl
  exact rI () hx hb hr hlk rfl hS rfl hP9 hD9 (Nat.le_of_ble_eq_true rfl) (Nat.le_of_ble_eq_true rfl) dJ0_length_8abf5_10

set_option maxHeartbeats 4000000 in
set_option maxRecDepth 100000 in
theorem k_pci1n (l : Launch) (g : va_G) (aC : Nat → ClassId) (aM : Nat → Nat) (j : Nat) (hj : j < 38) : Ct l g aC aM yJ3_checkIndex_8e157 cJ3_checkIndex_8e157 3 (some .int) 1 [.int (nI j), .int 38, .null] [] (QI g (fun (r : Int32) (_ : Unit) => r = (nI j)) (fun (_ : Unit) => [])) 0 0 := by
  refine Ct.mk (by decide) (Nat.le_of_ble_eq_true rfl) ?_
  intro p e s m below meth c A ls hx hb hml hown hts hr hlk hnm hK hA hM hM2 hP hD hS hl
  have hown : s.vm.findClass RJ3 = some m.cls := hown
  have F : Fx p s m _ c cJ3_checkIndex_8e157 3 RJ3 g aC aM A := ⟨hx, hb, hml, hown, hts, hK, hA, hM, hM2⟩
  have hl : lv_has ls 3 [(0, .int (nI j)), (1, .int 38), (2, .null)] := hl
  refine lv_iload_n hx hb dJ3_checkIndex_8e157_0 rfl (lv_at hl 0 rfl) ?_
  refine lv_if_lt (tgt := 9) hx hb dJ3_checkIndex_8e157_1 (by decide) (fun c_ => absurd c_ (show ¬ (nI j < nI 0) by rw [nI_ltI (by omega) (by omega)]; omega)) (fun _ => ?_)
  refine lv_iload_n hx hb dJ3_checkIndex_8e157_4 rfl (lv_at hl 0 rfl) ?_
  refine lv_iload_n hx hb dJ3_checkIndex_8e157_5 rfl (lv_at hl 1 rfl) ?_
  refine lv_icmp_lt (tgt := 16) hx hb dJ3_checkIndex_8e157_6 (by decide) (fun _ => ?_) (fun c_ => absurd (show nI j < nI 38 by rw [nI_ltI (by omega) (by omega)]; omega) c_)
  refine lv_iload_n hx hb dJ3_checkIndex_8e157_16 rfl (lv_at hl 0 rfl) ?_
  have hP9 := hP.sub (ws' := []) [] rfl
  have hD9 := hD.sub (ws' := []) [] (by decide) rfl
  exact rI () hx hb hr hlk rfl hS rfl hP9 hD9 (Nat.le_of_ble_eq_true rfl) (Nat.le_of_ble_eq_true rfl) dJ3_checkIndex_8e157_17

set_option maxHeartbeats 4000000 in
set_option maxRecDepth 100000 in
theorem k_pci1r (l : Launch) (g : va_G) (aC : Nat → ClassId) (aM : Nat → Nat) (tz : Nat) (j : Nat) (hj : j < 38) : Ct l g aC aM yJ3_checkIndex_8e157 cJ3_checkIndex_8e157 3 (some .int) 1 [.int (nI j), .int 38, .ref tz] [] (QI g (fun (r : Int32) (_ : Unit) => r = (nI j)) (fun (_ : Unit) => [])) 0 0 := by
  refine Ct.mk (by decide) (Nat.le_of_ble_eq_true rfl) ?_
  intro p e s m below meth c A ls hx hb hml hown hts hr hlk hnm hK hA hM hM2 hP hD hS hl
  have hown : s.vm.findClass RJ3 = some m.cls := hown
  have F : Fx p s m _ c cJ3_checkIndex_8e157 3 RJ3 g aC aM A := ⟨hx, hb, hml, hown, hts, hK, hA, hM, hM2⟩
  have hl : lv_has ls 3 [(0, .int (nI j)), (1, .int 38), (2, .ref tz)] := hl
  refine lv_iload_n hx hb dJ3_checkIndex_8e157_0 rfl (lv_at hl 0 rfl) ?_
  refine lv_if_lt (tgt := 9) hx hb dJ3_checkIndex_8e157_1 (by decide) (fun c_ => absurd c_ (show ¬ (nI j < nI 0) by rw [nI_ltI (by omega) (by omega)]; omega)) (fun _ => ?_)
  refine lv_iload_n hx hb dJ3_checkIndex_8e157_4 rfl (lv_at hl 0 rfl) ?_
  refine lv_iload_n hx hb dJ3_checkIndex_8e157_5 rfl (lv_at hl 1 rfl) ?_
  refine lv_icmp_lt (tgt := 16) hx hb dJ3_checkIndex_8e157_6 (by decide) (fun _ => ?_) (fun c_ => absurd (show nI j < nI 38 by rw [nI_ltI (by omega) (by omega)]; omega) c_)
  refine lv_iload_n hx hb dJ3_checkIndex_8e157_16 rfl (lv_at hl 0 rfl) ?_
  have hP9 := hP.sub (ws' := []) [] rfl
  have hD9 := hD.sub (ws' := []) [] (by decide) rfl
  exact rI () hx hb hr hlk rfl hS rfl hP9 hD9 (Nat.le_of_ble_eq_true rfl) (Nat.le_of_ble_eq_true rfl) dJ3_checkIndex_8e157_17

set_option maxHeartbeats 4000000 in
set_option maxRecDepth 100000 in
theorem k_ci1 (l : Launch) (g : va_G) (aC : Nat → ClassId) (aM : Nat → Nat) (j : Nat) (hj : j < 38) : Ct l g aC aM yJ0_checkIndex_df160 cJ0_checkIndex_df160 2 none 2 [.int (nI j), .int 38] [] (QV g (fun (_ : Unit) => True) (fun (_ : Unit) => [])) 0 0 := by
  refine Ct.mk (by decide) (Nat.le_of_ble_eq_true rfl) ?_
  intro p e s m below meth c A ls hx hb hml hown hts hr hlk hnm hK hA hM hM2 hP hD hS hl
  have hown : s.vm.findClass RJ0 = some m.cls := hown
  have F : Fx p s m _ c cJ0_checkIndex_df160 2 RJ0 g aC aM A := ⟨hx, hb, hml, hown, hts, hK, hA, hM, hM2⟩
  have hl : lv_has ls 2 [(0, .int (nI j)), (1, .int 38)] := hl
  refine lv_iload_n hx hb dJ0_checkIndex_df160_0 rfl (lv_at hl 0 rfl) ?_
  refine lv_iload_n hx hb dJ0_checkIndex_df160_1 rfl (lv_at hl 1 rfl) ?_
  rcases hM.2.2.2.2 with hz | ⟨tz, hz⟩
  · refine va_gets hx hb hz hS hown (hts _ tb69) (fun _ h => h) dJ0_checkIndex_df160_2 ?_
    refine goI (wr := []) (runS (n := 3) (As := [.int (nI j), .int 38, .null]) (rest := []) F hP hD hS (k_pci1n l g aC aM j (by omega)) [] (by decide) rfl tb73 tb71 tb72 tb5 ⟨by decide, by decide, by decide +kernel⟩ ⟨Nat.le_of_ble_eq_true rfl, Nat.le_of_ble_eq_true rfl⟩ rfl hl.1 rfl (Nat.le_of_ble_eq_true rfl) dJ0_checkIndex_df160_5 ⟨Nat.le_of_ble_eq_true rfl, Nat.le_of_ble_eq_true rfl⟩) hP hD hS hA [] [] rfl rfl (by decide) (by decide) (fun r_32 w33 H locs hw hP hD hS => ?_)
    have hP : va_P g vwCl [] H := hP
    have hD : va_D A [] := hD
    try dsimp only at hw
    subst hw
    refine lv_pop hx hb dJ0_checkIndex_df160_8 rfl ?_
    have hP9 := hP.sub (ws' := []) [] rfl
    have hD9 := hD.sub (ws' := []) [] (by decide) rfl
    exact rV () hx hb hr hlk hS trivial hP9 hD9 (Nat.le_of_ble_eq_true rfl) (Nat.le_of_ble_eq_true rfl) dJ0_checkIndex_df160_9
  · refine va_gets hx hb hz hS hown (hts _ tb69) (fun _ h => h) dJ0_checkIndex_df160_2 ?_
    refine goI (wr := []) (runS (n := 3) (As := [.int (nI j), .int 38, .ref tz]) (rest := []) F hP hD hS (k_pci1r l g aC aM tz j (by omega)) [] (by decide) rfl tb73 tb71 tb72 tb5 ⟨by decide, by decide, by decide +kernel⟩ ⟨Nat.le_of_ble_eq_true rfl, Nat.le_of_ble_eq_true rfl⟩ rfl hl.1 rfl (Nat.le_of_ble_eq_true rfl) dJ0_checkIndex_df160_5 ⟨Nat.le_of_ble_eq_true rfl, Nat.le_of_ble_eq_true rfl⟩) hP hD hS hA [] [] rfl rfl (by decide) (by decide) (fun r_35 w36 H locs hw hP hD hS => ?_)
    have hP : va_P g vwCl [] H := hP
    have hD : va_D A [] := hD
    try dsimp only at hw
    subst hw
    refine lv_pop hx hb dJ0_checkIndex_df160_8 rfl ?_
    have hP9 := hP.sub (ws' := []) [] rfl
    have hD9 := hD.sub (ws' := []) [] (by decide) rfl
    exact rV () hx hb hr hlk hS trivial hP9 hD9 (Nat.le_of_ble_eq_true rfl) (Nat.le_of_ble_eq_true rfl) dJ0_checkIndex_df160_9

set_option maxHeartbeats 4000000 in
set_option maxRecDepth 100000 in
theorem k_lcharAt1 (l : Launch) (g : va_G) (aC : Nat → ClassId) (aM : Nat → Nat) (j : Nat) (hj : j < 38) : Ct l g aC aM yJ1_charAt_3b067 cJ1_charAt_3b067 2 (some .char) 3 [.ref (aM (7 + 1)), .int (nI j)] [] (QI g (fun (r : Int32) (_ : Unit) => narrow .char (.int r) = .int r) (fun (_ : Unit) => [])) 0 0 := by
  refine Ct.mk (by decide) (Nat.le_of_ble_eq_true rfl) ?_
  intro p e s m below meth c A ls hx hb hml hown hts hr hlk hnm hK hA hM hM2 hP hD hS hl
  have hown : s.vm.findClass RJ1 = some m.cls := hown
  have F : Fx p s m _ c cJ1_charAt_3b067 2 RJ1 g aC aM A := ⟨hx, hb, hml, hown, hts, hK, hA, hM, hM2⟩
  have hl : lv_has ls 2 [(0, .ref (aM (7 + 1))), (1, .int (nI j))] := hl
  refine lv_iload_n hx hb dJ1_charAt_3b067_0 rfl (lv_at hl 1 rfl) ?_
  refine lv_aload_n hx hb dJ1_charAt_3b067_1 rfl (lv_at hl 0 rfl) ?_
  refine va_tlen (v := 38) hx hb (hM.2.2.2.1.1 1 (by decide)).2.2.2 hS rfl dJ1_charAt_3b067_2 ?_
  refine goV (wr := []) (runS (n := 2) (As := [.int (nI j), .int 38]) (rest := []) F hP hD hS (k_ci1 l g aC aM j (by omega)) [] (by decide) rfl tb68 tb66 tb67 tb3 ⟨by decide, by decide, by decide +kernel⟩ ⟨Nat.le_of_ble_eq_true rfl, Nat.le_of_ble_eq_true rfl⟩ rfl hl.1 rfl (Nat.le_of_ble_eq_true rfl) dJ1_charAt_3b067_3 ⟨Nat.le_of_ble_eq_true rfl, Nat.le_of_ble_eq_true rfl⟩) hP hD hS hA [] [] rfl rfl (by decide) (by decide) (fun w39 H locs hw hP hD hS => ?_)
  have hP : va_P g vwCl [] H := hP
  have hD : va_D A [] := hD
  refine lv_aload_n hx hb dJ1_charAt_3b067_6 rfl (lv_at hl 0 rfl) ?_
  refine lv_iload_n hx hb dJ1_charAt_3b067_7 rfl (lv_at hl 1 rfl) ?_
  obtain ⟨b40, eb40⟩ : ∃ z : Int32, ((stB.getD 1 []).getD j 0) = z := ⟨_, rfl⟩
  refine va_tb (v := .int b40) hx hb (hM.2.2.2.1.1 1 (by decide)).2.2.2 hS (vpin (nI_pos (by omega)) (nI_clamp (by omega)) (show j < 38 by omega)) (by rw [nI_clamp (by omega), eb40]) dJ1_charAt_3b067_8 ?_
  refine lv_sipush (v := 255) hx hb dJ1_charAt_3b067_9 (by decide) ?_
  refine lv_iand hx hb dJ1_charAt_3b067_12 ?_
  refine lv_i2c (v := (((b40 &&& 255).toUInt32 % 65536).toInt32)) hx hb dJ1_charAt_3b067_13 rfl ?_
  have hP9 := hP.sub (ws' := []) [] rfl
  have hD9 := hD.sub (ws' := []) [] (by decide) rfl
  exact rI () hx hb hr hlk (pk_nc _) hS (pk_nc _) hP9 hD9 (Nat.le_of_ble_eq_true rfl) (Nat.le_of_ble_eq_true rfl) dJ1_charAt_3b067_14

set_option maxHeartbeats 4000000 in
set_option maxRecDepth 100000 in
theorem k_charAt1 (l : Launch) (g : va_G) (aC : Nat → ClassId) (aM : Nat → Nat) (j : Nat) (hj : j < 38) : Ct l g aC aM yJ0_charAt_5068e cJ0_charAt_5068e 2 (some .char) 4 [.ref (aM (1 + 1)), .int (nI j)] [] (QI g (fun (r : Int32) (_ : Unit) => True) (fun (_ : Unit) => [])) 0 0 := by
  refine Ct.mk (by decide) (Nat.le_of_ble_eq_true rfl) ?_
  intro p e s m below meth c A ls hx hb hml hown hts hr hlk hnm hK hA hM hM2 hP hD hS hl
  have hown : s.vm.findClass RJ0 = some m.cls := hown
  have F : Fx p s m _ c cJ0_charAt_5068e 2 RJ0 g aC aM A := ⟨hx, hb, hml, hown, hts, hK, hA, hM, hM2⟩
  have hl : lv_has ls 2 [(0, .ref (aM (1 + 1))), (1, .int (nI j))] := hl
  refine lv_aload_n hx hb dJ0_charAt_5068e_0 rfl (lv_at hl 0 rfl) ?_
  refine goI (wr := []) (runVs (n := 0) (As := []) (rest := []) F hP hD hS (k_latin1 l g aC aM ) [] (by decide) rfl 1 (by decide) rfl rfl tb62 tb59 tb60 tb61 tb3 ⟨by decide, by decide, by decide +kernel⟩ ⟨Nat.le_of_ble_eq_true rfl, Nat.le_of_ble_eq_true rfl⟩ rfl hl.1 rfl (Nat.le_of_ble_eq_true rfl) dJ0_charAt_5068e_1 ⟨Nat.le_of_ble_eq_true rfl, Nat.le_of_ble_eq_true rfl⟩) hP hD hS hA [] [] rfl rfl (by decide) (by decide) (fun r_42 w43 H locs hw hP hD hS => ?_)
  have hP : va_P g vwCl [] H := hP
  have hD : va_D A [] := hD
  try dsimp only at hw
  subst hw
  refine lv_if_eq (tgt := 16) hx hb dJ0_charAt_5068e_4 (by decide) (fun c_ => absurd c_ (by decide +kernel)) (fun _ => ?_)
  refine lv_aload_n hx hb dJ0_charAt_5068e_7 rfl (lv_at hl 0 rfl) ?_
  refine vk_getf hx hb (hM.2.2.2.1.1 1 (by decide)).2.2.1 hS hown (hts _ tb1939) (fun _ h => h) dJ0_charAt_5068e_8 ?_
  refine lv_iload_n hx hb dJ0_charAt_5068e_11 rfl (lv_at hl 1 rfl) ?_
  refine goI (wr := []) (runS (n := 2) (As := [.ref (aM (7 + 1)), .int (nI j)]) (rest := []) F hP hD hS (k_lcharAt1 l g aC aM j (by omega)) [] (by decide) rfl tb65 tb63 tb64 tb4 ⟨by decide, by decide, by decide +kernel⟩ ⟨Nat.le_of_ble_eq_true rfl, Nat.le_of_ble_eq_true rfl⟩ rfl hl.1 rfl (Nat.le_of_ble_eq_true rfl) dJ0_charAt_5068e_12 ⟨Nat.le_of_ble_eq_true rfl, Nat.le_of_ble_eq_true rfl⟩) hP hD hS hA [] [] rfl rfl (by decide) (by decide) (fun r_46 w47 H locs hw hP hD hS => ?_)
  have hP : va_P g vwCl [] H := hP
  have hD : va_D A [] := hD
  have x48 := hw
  have hP9 := hP.sub (ws' := []) [] rfl
  have hD9 := hD.sub (ws' := []) [] (by decide) rfl
  exact rI () hx hb hr hlk x48 hS trivial hP9 hD9 (Nat.le_of_ble_eq_true rfl) (Nat.le_of_ble_eq_true rfl) dJ0_charAt_5068e_15

set_option maxHeartbeats 4000000 in
set_option maxRecDepth 100000 in
theorem k_coder2 (l : Launch) (g : va_G) (aC : Nat → ClassId) (aM : Nat → Nat)  : Ct l g aC aM yJ0_coder_7d493 cJ0_coder_7d493 1 (some .byte) 1 [.ref (aM (1 + 2))] [] (QI g (fun (r : Int32) (_ : Unit) => r = 0) (fun (_ : Unit) => [])) 0 0 := by
  refine Ct.mk (by decide) (Nat.le_of_ble_eq_true rfl) ?_
  intro p e s m below meth c A ls hx hb hml hown hts hr hlk hnm hK hA hM hM2 hP hD hS hl
  have hown : s.vm.findClass RJ0 = some m.cls := hown
  have F : Fx p s m _ c cJ0_coder_7d493 1 RJ0 g aC aM A := ⟨hx, hb, hml, hown, hts, hK, hA, hM, hM2⟩
  have hl : lv_has ls 1 [(0, .ref (aM (1 + 2)))] := hl
  refine va_gets hx hb hM.2.2.1 hS hown (hts _ tb53) (fun _ h => h) dJ0_coder_7d493_0 ?_
  refine lv_if_eq (tgt := 13) hx hb dJ0_coder_7d493_3 (by decide) (fun c_ => absurd c_ (by decide +kernel)) (fun _ => ?_)
  refine lv_aload_n hx hb dJ0_coder_7d493_6 rfl (lv_at hl 0 rfl) ?_
  refine vk_getf hx hb (hM.2.2.2.1.1 2 (by decide)).2.1 hS hown (hts _ tb1940) (fun _ h => h) dJ0_coder_7d493_7 ?_
  refine lv_goto (tgt := 14) hx hb dJ0_coder_7d493_10 (by decide) ?_
  have hP9 := hP.sub (ws' := []) [] rfl
  have hD9 := hD.sub (ws' := []) [] (by decide) rfl
  exact rI () hx hb hr hlk rfl hS rfl hP9 hD9 (Nat.le_of_ble_eq_true rfl) (Nat.le_of_ble_eq_true rfl) dJ0_coder_7d493_14

set_option maxHeartbeats 4000000 in
set_option maxRecDepth 100000 in
theorem k_latin2 (l : Launch) (g : va_G) (aC : Nat → ClassId) (aM : Nat → Nat)  : Ct l g aC aM yJ0_isLatin1_aae02 cJ0_isLatin1_aae02 1 (some .boolean) 1 [.ref (aM (1 + 2))] [] (QI g (fun (r : Int32) (_ : Unit) => r = 1) (fun (_ : Unit) => [])) 0 0 := by
  refine Ct.mk (by decide) (Nat.le_of_ble_eq_true rfl) ?_
  intro p e s m below meth c A ls hx hb hml hown hts hr hlk hnm hK hA hM hM2 hP hD hS hl
  have hown : s.vm.findClass RJ0 = some m.cls := hown
  have F : Fx p s m _ c cJ0_isLatin1_aae02 1 RJ0 g aC aM A := ⟨hx, hb, hml, hown, hts, hK, hA, hM, hM2⟩
  have hl : lv_has ls 1 [(0, .ref (aM (1 + 2)))] := hl
  refine va_gets hx hb hM.2.2.1 hS hown (hts _ tb53) (fun _ h => h) dJ0_isLatin1_aae02_0 ?_
  refine lv_if_eq (tgt := 17) hx hb dJ0_isLatin1_aae02_3 (by decide) (fun c_ => absurd c_ (by decide +kernel)) (fun _ => ?_)
  refine lv_aload_n hx hb dJ0_isLatin1_aae02_6 rfl (lv_at hl 0 rfl) ?_
  refine vk_getf hx hb (hM.2.2.2.1.1 2 (by decide)).2.1 hS hown (hts _ tb1940) (fun _ h => h) dJ0_isLatin1_aae02_7 ?_
  refine lv_if_ne (tgt := 17) hx hb dJ0_isLatin1_aae02_10 (by decide) (fun c_ => absurd (by decide +kernel) c_) (fun _ => ?_)
  refine lv_iconst (v := 1) hx hb dJ0_isLatin1_aae02_13 (by decide) ?_
  refine lv_goto (tgt := 18) hx hb dJ0_isLatin1_aae02_14 (by decide) ?_
  have hP9 := hP.sub (ws' := []) [] rfl
  have hD9 := hD.sub (ws' := []) [] (by decide) rfl
  exact rI () hx hb hr hlk rfl hS rfl hP9 hD9 (Nat.le_of_ble_eq_true rfl) (Nat.le_of_ble_eq_true rfl) dJ0_isLatin1_aae02_18

set_option maxHeartbeats 4000000 in
set_option maxRecDepth 100000 in
theorem k_length2 (l : Launch) (g : va_G) (aC : Nat → ClassId) (aM : Nat → Nat)  : Ct l g aC aM yJ0_length_8abf5 cJ0_length_8abf5 1 (some .int) 2 [.ref (aM (1 + 2))] [] (QI g (fun (r : Int32) (_ : Unit) => r = 17) (fun (_ : Unit) => [])) 0 0 := by
  refine Ct.mk (by decide) (Nat.le_of_ble_eq_true rfl) ?_
  intro p e s m below meth c A ls hx hb hml hown hts hr hlk hnm hK hA hM hM2 hP hD hS hl
  have hown : s.vm.findClass RJ0 = some m.cls := hown
  have F : Fx p s m _ c cJ0_length_8abf5 1 RJ0 g aC aM A := ⟨hx, hb, hml, hown, hts, hK, hA, hM, hM2⟩
  have hl : lv_has ls 1 [(0, .ref (aM (1 + 2)))] := hl
  refine lv_aload_n hx hb dJ0_length_8abf5_0 rfl (lv_at hl 0 rfl) ?_
  refine vk_getf hx hb (hM.2.2.2.1.1 2 (by decide)).2.2.1 hS hown (hts _ tb1939) (fun _ h => h) dJ0_length_8abf5_1 ?_
  refine va_tlen (v := 17) hx hb (hM.2.2.2.1.1 2 (by decide)).2.2.2 hS rfl dJ0_length_8abf5_4 ?_
  refine lv_aload_n hx hb dJ0_length_8abf5_5 rfl (lv_at hl 0 rfl) ?_
  refine goI (wr := []) (runVs (n := 0) (As := []) (rest := [.int 17]) F hP hD hS (k_coder2 l g aC aM ) [] (by decide) rfl 2 (by decide) rfl rfl tb52 tb49 tb50 tb51 tb3 ⟨by decide, by decide, by decide +kernel⟩ ⟨Nat.le_of_ble_eq_true rfl, Nat.le_of_ble_eq_true rfl⟩ rfl hl.1 rfl (Nat.le_of_ble_eq_true rfl) dJ0_length_8abf5_6 ⟨Nat.le_of_ble_eq_true rfl, Nat.le_of_ble_eq_true rfl⟩) hP hD hS hA [] [] rfl rfl (by decide) (by decide) (fun r_53 w54 H locs hw hP hD hS => ?_)
  have hP : va_P g vwCl [] H := hP
  have hD : va_D A [] := hD
  try dsimp only at hw
  subst hw
  refine lv_ishr hx hb dJ0_length_8abf5_9 ?_
  refine relit (v := 17) (by decide +kernel) ?_
  have hP9 := hP.sub (ws' := []) [] rfl
  have hD9 := hD.sub (ws' := []) [] (by decide) rfl
  exact rI () hx hb hr hlk rfl hS rfl hP9 hD9 (Nat.le_of_ble_eq_true rfl) (Nat.le_of_ble_eq_true rfl) dJ0_length_8abf5_10

set_option maxHeartbeats 4000000 in
set_option maxRecDepth 100000 in
theorem k_pci2n (l : Launch) (g : va_G) (aC : Nat → ClassId) (aM : Nat → Nat) (j : Nat) (hj : j < 17) : Ct l g aC aM yJ3_checkIndex_8e157 cJ3_checkIndex_8e157 3 (some .int) 1 [.int (nI j), .int 17, .null] [] (QI g (fun (r : Int32) (_ : Unit) => r = (nI j)) (fun (_ : Unit) => [])) 0 0 := by
  refine Ct.mk (by decide) (Nat.le_of_ble_eq_true rfl) ?_
  intro p e s m below meth c A ls hx hb hml hown hts hr hlk hnm hK hA hM hM2 hP hD hS hl
  have hown : s.vm.findClass RJ3 = some m.cls := hown
  have F : Fx p s m _ c cJ3_checkIndex_8e157 3 RJ3 g aC aM A := ⟨hx, hb, hml, hown, hts, hK, hA, hM, hM2⟩
  have hl : lv_has ls 3 [(0, .int (nI j)), (1, .int 17), (2, .null)] := hl
  refine lv_iload_n hx hb dJ3_checkIndex_8e157_0 rfl (lv_at hl 0 rfl) ?_
  refine lv_if_lt (tgt := 9) hx hb dJ3_checkIndex_8e157_1 (by decide) (fun c_ => absurd c_ (show ¬ (nI j < nI 0) by rw [nI_ltI (by omega) (by omega)]; omega)) (fun _ => ?_)
  refine lv_iload_n hx hb dJ3_checkIndex_8e157_4 rfl (lv_at hl 0 rfl) ?_
  refine lv_iload_n hx hb dJ3_checkIndex_8e157_5 rfl (lv_at hl 1 rfl) ?_
  refine lv_icmp_lt (tgt := 16) hx hb dJ3_checkIndex_8e157_6 (by decide) (fun _ => ?_) (fun c_ => absurd (show nI j < nI 17 by rw [nI_ltI (by omega) (by omega)]; omega) c_)
  refine lv_iload_n hx hb dJ3_checkIndex_8e157_16 rfl (lv_at hl 0 rfl) ?_
  have hP9 := hP.sub (ws' := []) [] rfl
  have hD9 := hD.sub (ws' := []) [] (by decide) rfl
  exact rI () hx hb hr hlk rfl hS rfl hP9 hD9 (Nat.le_of_ble_eq_true rfl) (Nat.le_of_ble_eq_true rfl) dJ3_checkIndex_8e157_17

set_option maxHeartbeats 4000000 in
set_option maxRecDepth 100000 in
theorem k_pci2r (l : Launch) (g : va_G) (aC : Nat → ClassId) (aM : Nat → Nat) (tz : Nat) (j : Nat) (hj : j < 17) : Ct l g aC aM yJ3_checkIndex_8e157 cJ3_checkIndex_8e157 3 (some .int) 1 [.int (nI j), .int 17, .ref tz] [] (QI g (fun (r : Int32) (_ : Unit) => r = (nI j)) (fun (_ : Unit) => [])) 0 0 := by
  refine Ct.mk (by decide) (Nat.le_of_ble_eq_true rfl) ?_
  intro p e s m below meth c A ls hx hb hml hown hts hr hlk hnm hK hA hM hM2 hP hD hS hl
  have hown : s.vm.findClass RJ3 = some m.cls := hown
  have F : Fx p s m _ c cJ3_checkIndex_8e157 3 RJ3 g aC aM A := ⟨hx, hb, hml, hown, hts, hK, hA, hM, hM2⟩
  have hl : lv_has ls 3 [(0, .int (nI j)), (1, .int 17), (2, .ref tz)] := hl
  refine lv_iload_n hx hb dJ3_checkIndex_8e157_0 rfl (lv_at hl 0 rfl) ?_
  refine lv_if_lt (tgt := 9) hx hb dJ3_checkIndex_8e157_1 (by decide) (fun c_ => absurd c_ (show ¬ (nI j < nI 0) by rw [nI_ltI (by omega) (by omega)]; omega)) (fun _ => ?_)
  refine lv_iload_n hx hb dJ3_checkIndex_8e157_4 rfl (lv_at hl 0 rfl) ?_
  refine lv_iload_n hx hb dJ3_checkIndex_8e157_5 rfl (lv_at hl 1 rfl) ?_
  refine lv_icmp_lt (tgt := 16) hx hb dJ3_checkIndex_8e157_6 (by decide) (fun _ => ?_) (fun c_ => absurd (show nI j < nI 17 by rw [nI_ltI (by omega) (by omega)]; omega) c_)
  refine lv_iload_n hx hb dJ3_checkIndex_8e157_16 rfl (lv_at hl 0 rfl) ?_
  have hP9 := hP.sub (ws' := []) [] rfl
  have hD9 := hD.sub (ws' := []) [] (by decide) rfl
  exact rI () hx hb hr hlk rfl hS rfl hP9 hD9 (Nat.le_of_ble_eq_true rfl) (Nat.le_of_ble_eq_true rfl) dJ3_checkIndex_8e157_17

set_option maxHeartbeats 4000000 in
set_option maxRecDepth 100000 in
theorem k_ci2 (l : Launch) (g : va_G) (aC : Nat → ClassId) (aM : Nat → Nat) (j : Nat) (hj : j < 17) : Ct l g aC aM yJ0_checkIndex_df160 cJ0_checkIndex_df160 2 none 2 [.int (nI j), .int 17] [] (QV g (fun (_ : Unit) => True) (fun (_ : Unit) => [])) 0 0 := by
  refine Ct.mk (by decide) (Nat.le_of_ble_eq_true rfl) ?_
  intro p e s m below meth c A ls hx hb hml hown hts hr hlk hnm hK hA hM hM2 hP hD hS hl
  have hown : s.vm.findClass RJ0 = some m.cls := hown
  have F : Fx p s m _ c cJ0_checkIndex_df160 2 RJ0 g aC aM A := ⟨hx, hb, hml, hown, hts, hK, hA, hM, hM2⟩
  have hl : lv_has ls 2 [(0, .int (nI j)), (1, .int 17)] := hl
  refine lv_iload_n hx hb dJ0_checkIndex_df160_0 rfl (lv_at hl 0 rfl) ?_
  refine lv_iload_n hx hb dJ0_checkIndex_df160_1 rfl (lv_at hl 1 rfl) ?_
  rcases hM.2.2.2.2 with hz | ⟨tz, hz⟩
  · refine va_gets hx hb hz hS hown (hts _ tb69) (fun _ h => h) dJ0_checkIndex_df160_2 ?_
    refine goI (wr := []) (runS (n := 3) (As := [.int (nI j), .int 17, .null]) (rest := []) F hP hD hS (k_pci2n l g aC aM j (by omega)) [] (by decide) rfl tb73 tb71 tb72 tb5 ⟨by decide, by decide, by decide +kernel⟩ ⟨Nat.le_of_ble_eq_true rfl, Nat.le_of_ble_eq_true rfl⟩ rfl hl.1 rfl (Nat.le_of_ble_eq_true rfl) dJ0_checkIndex_df160_5 ⟨Nat.le_of_ble_eq_true rfl, Nat.le_of_ble_eq_true rfl⟩) hP hD hS hA [] [] rfl rfl (by decide) (by decide) (fun r_56 w57 H locs hw hP hD hS => ?_)
    have hP : va_P g vwCl [] H := hP
    have hD : va_D A [] := hD
    try dsimp only at hw
    subst hw
    refine lv_pop hx hb dJ0_checkIndex_df160_8 rfl ?_
    have hP9 := hP.sub (ws' := []) [] rfl
    have hD9 := hD.sub (ws' := []) [] (by decide) rfl
    exact rV () hx hb hr hlk hS trivial hP9 hD9 (Nat.le_of_ble_eq_true rfl) (Nat.le_of_ble_eq_true rfl) dJ0_checkIndex_df160_9
  · refine va_gets hx hb hz hS hown (hts _ tb69) (fun _ h => h) dJ0_checkIndex_df160_2 ?_
    refine goI (wr := []) (runS (n := 3) (As := [.int (nI j), .int 17, .ref tz]) (rest := []) F hP hD hS (k_pci2r l g aC aM tz j (by omega)) [] (by decide) rfl tb73 tb71 tb72 tb5 ⟨by decide, by decide, by decide +kernel⟩ ⟨Nat.le_of_ble_eq_true rfl, Nat.le_of_ble_eq_true rfl⟩ rfl hl.1 rfl (Nat.le_of_ble_eq_true rfl) dJ0_checkIndex_df160_5 ⟨Nat.le_of_ble_eq_true rfl, Nat.le_of_ble_eq_true rfl⟩) hP hD hS hA [] [] rfl rfl (by decide) (by decide) (fun r_59 w60 H locs hw hP hD hS => ?_)
    have hP : va_P g vwCl [] H := hP
    have hD : va_D A [] := hD
    try dsimp only at hw
    subst hw
    refine lv_pop hx hb dJ0_checkIndex_df160_8 rfl ?_
    have hP9 := hP.sub (ws' := []) [] rfl
    have hD9 := hD.sub (ws' := []) [] (by decide) rfl
    exact rV () hx hb hr hlk hS trivial hP9 hD9 (Nat.le_of_ble_eq_true rfl) (Nat.le_of_ble_eq_true rfl) dJ0_checkIndex_df160_9

set_option maxHeartbeats 4000000 in
set_option maxRecDepth 100000 in
theorem k_lcharAt2 (l : Launch) (g : va_G) (aC : Nat → ClassId) (aM : Nat → Nat) (j : Nat) (hj : j < 17) : Ct l g aC aM yJ1_charAt_3b067 cJ1_charAt_3b067 2 (some .char) 3 [.ref (aM (7 + 2)), .int (nI j)] [] (QI g (fun (r : Int32) (_ : Unit) => narrow .char (.int r) = .int r) (fun (_ : Unit) => [])) 0 0 := by
  refine Ct.mk (by decide) (Nat.le_of_ble_eq_true rfl) ?_
  intro p e s m below meth c A ls hx hb hml hown hts hr hlk hnm hK hA hM hM2 hP hD hS hl
  have hown : s.vm.findClass RJ1 = some m.cls := hown
  have F : Fx p s m _ c cJ1_charAt_3b067 2 RJ1 g aC aM A := ⟨hx, hb, hml, hown, hts, hK, hA, hM, hM2⟩
  have hl : lv_has ls 2 [(0, .ref (aM (7 + 2))), (1, .int (nI j))] := hl
  refine lv_iload_n hx hb dJ1_charAt_3b067_0 rfl (lv_at hl 1 rfl) ?_
  refine lv_aload_n hx hb dJ1_charAt_3b067_1 rfl (lv_at hl 0 rfl) ?_
  refine va_tlen (v := 17) hx hb (hM.2.2.2.1.1 2 (by decide)).2.2.2 hS rfl dJ1_charAt_3b067_2 ?_
  refine goV (wr := []) (runS (n := 2) (As := [.int (nI j), .int 17]) (rest := []) F hP hD hS (k_ci2 l g aC aM j (by omega)) [] (by decide) rfl tb68 tb66 tb67 tb3 ⟨by decide, by decide, by decide +kernel⟩ ⟨Nat.le_of_ble_eq_true rfl, Nat.le_of_ble_eq_true rfl⟩ rfl hl.1 rfl (Nat.le_of_ble_eq_true rfl) dJ1_charAt_3b067_3 ⟨Nat.le_of_ble_eq_true rfl, Nat.le_of_ble_eq_true rfl⟩) hP hD hS hA [] [] rfl rfl (by decide) (by decide) (fun w63 H locs hw hP hD hS => ?_)
  have hP : va_P g vwCl [] H := hP
  have hD : va_D A [] := hD
  refine lv_aload_n hx hb dJ1_charAt_3b067_6 rfl (lv_at hl 0 rfl) ?_
  refine lv_iload_n hx hb dJ1_charAt_3b067_7 rfl (lv_at hl 1 rfl) ?_
  obtain ⟨b64, eb64⟩ : ∃ z : Int32, ((stB.getD 2 []).getD j 0) = z := ⟨_, rfl⟩
  refine va_tb (v := .int b64) hx hb (hM.2.2.2.1.1 2 (by decide)).2.2.2 hS (vpin (nI_pos (by omega)) (nI_clamp (by omega)) (show j < 17 by omega)) (by rw [nI_clamp (by omega), eb64]) dJ1_charAt_3b067_8 ?_
  refine lv_sipush (v := 255) hx hb dJ1_charAt_3b067_9 (by decide) ?_
  refine lv_iand hx hb dJ1_charAt_3b067_12 ?_
  refine lv_i2c (v := (((b64 &&& 255).toUInt32 % 65536).toInt32)) hx hb dJ1_charAt_3b067_13 rfl ?_
  have hP9 := hP.sub (ws' := []) [] rfl
  have hD9 := hD.sub (ws' := []) [] (by decide) rfl
  exact rI () hx hb hr hlk (pk_nc _) hS (pk_nc _) hP9 hD9 (Nat.le_of_ble_eq_true rfl) (Nat.le_of_ble_eq_true rfl) dJ1_charAt_3b067_14

set_option maxHeartbeats 4000000 in
set_option maxRecDepth 100000 in
theorem k_charAt2 (l : Launch) (g : va_G) (aC : Nat → ClassId) (aM : Nat → Nat) (j : Nat) (hj : j < 17) : Ct l g aC aM yJ0_charAt_5068e cJ0_charAt_5068e 2 (some .char) 4 [.ref (aM (1 + 2)), .int (nI j)] [] (QI g (fun (r : Int32) (_ : Unit) => True) (fun (_ : Unit) => [])) 0 0 := by
  refine Ct.mk (by decide) (Nat.le_of_ble_eq_true rfl) ?_
  intro p e s m below meth c A ls hx hb hml hown hts hr hlk hnm hK hA hM hM2 hP hD hS hl
  have hown : s.vm.findClass RJ0 = some m.cls := hown
  have F : Fx p s m _ c cJ0_charAt_5068e 2 RJ0 g aC aM A := ⟨hx, hb, hml, hown, hts, hK, hA, hM, hM2⟩
  have hl : lv_has ls 2 [(0, .ref (aM (1 + 2))), (1, .int (nI j))] := hl
  refine lv_aload_n hx hb dJ0_charAt_5068e_0 rfl (lv_at hl 0 rfl) ?_
  refine goI (wr := []) (runVs (n := 0) (As := []) (rest := []) F hP hD hS (k_latin2 l g aC aM ) [] (by decide) rfl 2 (by decide) rfl rfl tb62 tb59 tb60 tb61 tb3 ⟨by decide, by decide, by decide +kernel⟩ ⟨Nat.le_of_ble_eq_true rfl, Nat.le_of_ble_eq_true rfl⟩ rfl hl.1 rfl (Nat.le_of_ble_eq_true rfl) dJ0_charAt_5068e_1 ⟨Nat.le_of_ble_eq_true rfl, Nat.le_of_ble_eq_true rfl⟩) hP hD hS hA [] [] rfl rfl (by decide) (by decide) (fun r_66 w67 H locs hw hP hD hS => ?_)
  have hP : va_P g vwCl [] H := hP
  have hD : va_D A [] := hD
  try dsimp only at hw
  subst hw
  refine lv_if_eq (tgt := 16) hx hb dJ0_charAt_5068e_4 (by decide) (fun c_ => absurd c_ (by decide +kernel)) (fun _ => ?_)
  refine lv_aload_n hx hb dJ0_charAt_5068e_7 rfl (lv_at hl 0 rfl) ?_
  refine vk_getf hx hb (hM.2.2.2.1.1 2 (by decide)).2.2.1 hS hown (hts _ tb1939) (fun _ h => h) dJ0_charAt_5068e_8 ?_
  refine lv_iload_n hx hb dJ0_charAt_5068e_11 rfl (lv_at hl 1 rfl) ?_
  refine goI (wr := []) (runS (n := 2) (As := [.ref (aM (7 + 2)), .int (nI j)]) (rest := []) F hP hD hS (k_lcharAt2 l g aC aM j (by omega)) [] (by decide) rfl tb65 tb63 tb64 tb4 ⟨by decide, by decide, by decide +kernel⟩ ⟨Nat.le_of_ble_eq_true rfl, Nat.le_of_ble_eq_true rfl⟩ rfl hl.1 rfl (Nat.le_of_ble_eq_true rfl) dJ0_charAt_5068e_12 ⟨Nat.le_of_ble_eq_true rfl, Nat.le_of_ble_eq_true rfl⟩) hP hD hS hA [] [] rfl rfl (by decide) (by decide) (fun r_70 w71 H locs hw hP hD hS => ?_)
  have hP : va_P g vwCl [] H := hP
  have hD : va_D A [] := hD
  have x72 := hw
  have hP9 := hP.sub (ws' := []) [] rfl
  have hD9 := hD.sub (ws' := []) [] (by decide) rfl
  exact rI () hx hb hr hlk x72 hS trivial hP9 hD9 (Nat.le_of_ble_eq_true rfl) (Nat.le_of_ble_eq_true rfl) dJ0_charAt_5068e_15
