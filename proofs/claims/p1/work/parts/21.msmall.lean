theorem dX11_moves_0 : decode cX11_moves 0 = .ok (.iconst 0, 1) := by decide +kernel
theorem dX11_moves_1 : decode cX11_moves 1 = .ok (.istore_n 2, 1) := by decide +kernel
theorem dX11_moves_2 : decode cX11_moves 2 = .ok (.iload_n 2, 1) := by decide +kernel
theorem dX11_moves_3 : decode cX11_moves 3 = .ok (.iload_n 1, 1) := by decide +kernel
theorem dX11_moves_4 : decode cX11_moves 4 = .ok (.if_icmp .ge 17, 3) := by decide +kernel
theorem dX11_moves_7 : decode cX11_moves 7 = .ok (.aload_n 0, 1) := by decide +kernel
theorem dX11_moves_8 : decode cX11_moves 8 = .ok (.iload_n 2, 1) := by decide +kernel
theorem dX11_moves_9 : decode cX11_moves 9 = .ok (.aload_n 0, 1) := by decide +kernel
theorem dX11_moves_10 : decode cX11_moves 10 = .ok (.iload_n 1, 1) := by decide +kernel
theorem dX11_moves_11 : decode cX11_moves 11 = .ok (.iload_n 2, 1) := by decide +kernel
theorem dX11_moves_12 : decode cX11_moves 12 = .ok (.iadd, 1) := by decide +kernel
theorem dX11_moves_13 : decode cX11_moves 13 = .ok (.iaload, 1) := by decide +kernel
theorem dX11_moves_14 : decode cX11_moves 14 = .ok (.iastore, 1) := by decide +kernel
theorem dX11_moves_15 : decode cX11_moves 15 = .ok (.iinc 2 1, 3) := by decide +kernel
theorem dX11_moves_18 : decode cX11_moves 18 = .ok (.goto (-16), 3) := by decide +kernel
theorem dX11_moves_21 : decode cX11_moves 21 = .ok (.return_, 1) := by decide +kernel
set_option maxHeartbeats 4000000 in
set_option maxRecDepth 100000 in
theorem k_moves10 (l : Launch) (g : va_G) (aC : Nat → ClassId) (aM : Nat → Nat) (h0 : Nat) : Ct l g aC aM yX11_moves cX11_moves 3 none 1 [.ref h0, .int 5] [(h0, .inl (aC 0, 10, .inl (fun _ => 0)))] (QV g (fun (_ : Unit) => True) (fun (_ : Unit) => [(h0, .inl (aC 0, 10, .inl (fun _ => 0)))])) 0 0 := by
  refine Ct.mk (by decide) (Nat.le_of_ble_eq_true rfl) ?_
  intro p e s m below meth c A ls hx hb hml hown hts hr hlk hnm hK hA hM hM2 hP hD hS hl
  have hown : s.vm.findClass RX11 = some m.cls := hown
  have F : Fx p s m _ c cX11_moves 3 RX11 g aC aM A := ⟨hx, hb, hml, hown, hts, hK, hA, hM, hM2⟩
  have hl : lv_has ls 3 [(0, .ref h0), (1, .int 5)] := hl
  refine lv_iconst (v := 0) hx hb dX11_moves_0 (by decide) ?_
  refine lv_istore_n (lv' := [(2, .int 0), (0, .ref h0), (1, .int 5)]) hx hb dX11_moves_1 rfl hl (by decide) rfl (fun ls hl => ?_)
  refine W.widen (k := 0) (n := 0) (Nat.le_of_ble_eq_true rfl) (Nat.le_of_ble_eq_true rfl) ?_
  have hloop2 : ∀ (n k : Nat) (H : Heap) (locs : List Loc) (ls : Array Slot), k + n = 5 → va_P g vwCl [(h0, .inl (aC 0, 10, .inl (fun _ => 0)))] H → va_D A [(h0, .inl (aC 0, 10, .inl (fun _ => 0)))] → va_S A s.heap H locs → lv_has ls 3 [(2, .int (nI k)), (0, .ref h0), (1, .int 5)] → W p l e (rmL 1 0 0) s m [.ref h0, .int 5].toArray below meth c H locs 0 0 (MQ below (QV g (fun (_ : Unit) => True) (fun (_ : Unit) => [(h0, .inl (aC 0, 10, .inl (fun _ => 0)))]) A) [.ref h0, .int 5].toArray s 0 0 A) (F0 m 2 ls []) := by
    intro n
    induction n with
    | zero =>
      intro k  H locs ls hk  hP hD hS hl
      obtain rfl : k = 5 := by omega
      have hl : lv_has ls 3 [(2, .int 5), (0, .ref h0), (1, .int 5)] := hl
      refine lv_iload_n hx hb dX11_moves_2 rfl (lv_at hl 0 rfl) ?_
      refine lv_iload_n hx hb dX11_moves_3 rfl (lv_at hl 2 rfl) ?_
      refine lv_icmp_ge (tgt := 21) hx hb dX11_moves_4 (by decide) (fun _ => ?_) (fun c_ => absurd (by decide +kernel) c_)
      have hP9 := hP.sub (ws' := [(h0, .inl (aC 0, 10, .inl (fun _ => 0)))]) [0] rfl
      have hD9 := hD.sub (ws' := [(h0, .inl (aC 0, 10, .inl (fun _ => 0)))]) [0] (by decide) rfl
      exact rV () hx hb hr hlk hS trivial hP9 hD9 (Nat.le_of_ble_eq_true rfl) (Nat.le_of_ble_eq_true rfl) dX11_moves_21
    | succ n ih =>
      intro k  H locs ls hk  hP hD hS hl
      have hk2 : k < 5 := by omega
      refine lv_iload_n hx hb dX11_moves_2 rfl (lv_at hl 0 rfl) ?_
      refine lv_iload_n hx hb dX11_moves_3 rfl (lv_at hl 2 rfl) ?_
      refine lv_icmp_ge (tgt := 21) hx hb dX11_moves_4 (by decide) (fun c_ => absurd c_ (show ¬ (nI 5 ≤ nI k) by rw [nI_leI (by omega) (by omega)]; omega)) (fun _ => ?_)
      refine lv_aload_n hx hb dX11_moves_7 rfl (lv_at hl 1 rfl) ?_
      refine lv_iload_n hx hb dX11_moves_8 rfl (lv_at hl 0 rfl) ?_
      refine lv_aload_n hx hb dX11_moves_9 rfl (lv_at hl 1 rfl) ?_
      refine lv_iload_n hx hb dX11_moves_10 rfl (lv_at hl 2 rfl) ?_
      refine lv_iload_n hx hb dX11_moves_11 rfl (lv_at hl 0 rfl) ?_
      refine lv_iadd hx hb dX11_moves_12 ?_
      refine relit (v := (nI (k + 5))) (nadd (a := 5) (b := k) (by omega)) ?_
      refine xilo (v := 0) F hP 0 rfl (k + 5) (nI_pos (by omega)) (nI_clamp (by omega)) (by omega) rfl dX11_moves_13 ?_
      refine xist (f' := fun _ => 0) F hP hD hS 0 rfl k (nI_pos (by omega)) (nI_clamp (by omega)) (by omega) (xup0 _) dX11_moves_14 (fun H locs hP hD hS => ?_)
      have hP : va_P g vwCl [(h0, .inl (aC 0, 10, .inl (fun _ => 0)))] H := hP
      have hD : va_D A [(h0, .inl (aC 0, 10, .inl (fun _ => 0)))] := hD
      refine lv_iinc (v := (nI (k + 1))) (lv' := [(2, .int (nI (k + 1))), (0, .ref h0), (1, .int 5)]) hx hb dX11_moves_15 hl (k := 0) rfl (ninc 1 (by omega)) (by decide) rfl (fun ls hl => ?_)
      refine lv_goto (tgt := 2) hx hb dX11_moves_18 (by decide) ?_
      exact ih (k + 1)  _ _ _ (by omega) (hP.sub [0] rfl) (hD.sub [0] (by decide) rfl) hS (lv_sub hl [0, 1, 2] rfl)
  exact hloop2 5 0  _ _ _ (by omega) hP hD hS hl

set_option maxHeartbeats 4000000 in
set_option maxRecDepth 100000 in
theorem k_moves20 (l : Launch) (g : va_G) (aC : Nat → ClassId) (aM : Nat → Nat) (h0 : Nat) : Ct l g aC aM yX11_moves cX11_moves 3 none 1 [.ref h0, .int 10] [(h0, .inl (aC 0, 20, .inl (fun _ => 0)))] (QV g (fun (_ : Unit) => True) (fun (_ : Unit) => [(h0, .inl (aC 0, 20, .inl (fun _ => 0)))])) 0 0 := by
  refine Ct.mk (by decide) (Nat.le_of_ble_eq_true rfl) ?_
  intro p e s m below meth c A ls hx hb hml hown hts hr hlk hnm hK hA hM hM2 hP hD hS hl
  have hown : s.vm.findClass RX11 = some m.cls := hown
  have F : Fx p s m _ c cX11_moves 3 RX11 g aC aM A := ⟨hx, hb, hml, hown, hts, hK, hA, hM, hM2⟩
  have hl : lv_has ls 3 [(0, .ref h0), (1, .int 10)] := hl
  refine lv_iconst (v := 0) hx hb dX11_moves_0 (by decide) ?_
  refine lv_istore_n (lv' := [(2, .int 0), (0, .ref h0), (1, .int 10)]) hx hb dX11_moves_1 rfl hl (by decide) rfl (fun ls hl => ?_)
  refine W.widen (k := 0) (n := 0) (Nat.le_of_ble_eq_true rfl) (Nat.le_of_ble_eq_true rfl) ?_
  have hloop2 : ∀ (n k : Nat) (H : Heap) (locs : List Loc) (ls : Array Slot), k + n = 10 → va_P g vwCl [(h0, .inl (aC 0, 20, .inl (fun _ => 0)))] H → va_D A [(h0, .inl (aC 0, 20, .inl (fun _ => 0)))] → va_S A s.heap H locs → lv_has ls 3 [(2, .int (nI k)), (0, .ref h0), (1, .int 10)] → W p l e (rmL 1 0 0) s m [.ref h0, .int 10].toArray below meth c H locs 0 0 (MQ below (QV g (fun (_ : Unit) => True) (fun (_ : Unit) => [(h0, .inl (aC 0, 20, .inl (fun _ => 0)))]) A) [.ref h0, .int 10].toArray s 0 0 A) (F0 m 2 ls []) := by
    intro n
    induction n with
    | zero =>
      intro k  H locs ls hk  hP hD hS hl
      obtain rfl : k = 10 := by omega
      have hl : lv_has ls 3 [(2, .int 10), (0, .ref h0), (1, .int 10)] := hl
      refine lv_iload_n hx hb dX11_moves_2 rfl (lv_at hl 0 rfl) ?_
      refine lv_iload_n hx hb dX11_moves_3 rfl (lv_at hl 2 rfl) ?_
      refine lv_icmp_ge (tgt := 21) hx hb dX11_moves_4 (by decide) (fun _ => ?_) (fun c_ => absurd (by decide +kernel) c_)
      have hP9 := hP.sub (ws' := [(h0, .inl (aC 0, 20, .inl (fun _ => 0)))]) [0] rfl
      have hD9 := hD.sub (ws' := [(h0, .inl (aC 0, 20, .inl (fun _ => 0)))]) [0] (by decide) rfl
      exact rV () hx hb hr hlk hS trivial hP9 hD9 (Nat.le_of_ble_eq_true rfl) (Nat.le_of_ble_eq_true rfl) dX11_moves_21
    | succ n ih =>
      intro k  H locs ls hk  hP hD hS hl
      have hk2 : k < 10 := by omega
      refine lv_iload_n hx hb dX11_moves_2 rfl (lv_at hl 0 rfl) ?_
      refine lv_iload_n hx hb dX11_moves_3 rfl (lv_at hl 2 rfl) ?_
      refine lv_icmp_ge (tgt := 21) hx hb dX11_moves_4 (by decide) (fun c_ => absurd c_ (show ¬ (nI 10 ≤ nI k) by rw [nI_leI (by omega) (by omega)]; omega)) (fun _ => ?_)
      refine lv_aload_n hx hb dX11_moves_7 rfl (lv_at hl 1 rfl) ?_
      refine lv_iload_n hx hb dX11_moves_8 rfl (lv_at hl 0 rfl) ?_
      refine lv_aload_n hx hb dX11_moves_9 rfl (lv_at hl 1 rfl) ?_
      refine lv_iload_n hx hb dX11_moves_10 rfl (lv_at hl 2 rfl) ?_
      refine lv_iload_n hx hb dX11_moves_11 rfl (lv_at hl 0 rfl) ?_
      refine lv_iadd hx hb dX11_moves_12 ?_
      refine relit (v := (nI (k + 10))) (nadd (a := 10) (b := k) (by omega)) ?_
      refine xilo (v := 0) F hP 0 rfl (k + 10) (nI_pos (by omega)) (nI_clamp (by omega)) (by omega) rfl dX11_moves_13 ?_
      refine xist (f' := fun _ => 0) F hP hD hS 0 rfl k (nI_pos (by omega)) (nI_clamp (by omega)) (by omega) (xup0 _) dX11_moves_14 (fun H locs hP hD hS => ?_)
      have hP : va_P g vwCl [(h0, .inl (aC 0, 20, .inl (fun _ => 0)))] H := hP
      have hD : va_D A [(h0, .inl (aC 0, 20, .inl (fun _ => 0)))] := hD
      refine lv_iinc (v := (nI (k + 1))) (lv' := [(2, .int (nI (k + 1))), (0, .ref h0), (1, .int 10)]) hx hb dX11_moves_15 hl (k := 0) rfl (ninc 1 (by omega)) (by decide) rfl (fun ls hl => ?_)
      refine lv_goto (tgt := 2) hx hb dX11_moves_18 (by decide) ?_
      exact ih (k + 1)  _ _ _ (by omega) (hP.sub [0] rfl) (hD.sub [0] (by decide) rfl) hS (lv_sub hl [0, 1, 2] rfl)
  exact hloop2 10 0  _ _ _ (by omega) hP hD hS hl

set_option maxHeartbeats 4000000 in
set_option maxRecDepth 100000 in
theorem k_moves8 (l : Launch) (g : va_G) (aC : Nat → ClassId) (aM : Nat → Nat) (h0 : Nat) : Ct l g aC aM yX11_moves cX11_moves 3 none 1 [.ref h0, .int 4] [(h0, .inl (aC 0, 8, .inl (fun _ => 0)))] (QV g (fun (_ : Unit) => True) (fun (_ : Unit) => [(h0, .inl (aC 0, 8, .inl (fun _ => 0)))])) 0 0 := by
  refine Ct.mk (by decide) (Nat.le_of_ble_eq_true rfl) ?_
  intro p e s m below meth c A ls hx hb hml hown hts hr hlk hnm hK hA hM hM2 hP hD hS hl
  have hown : s.vm.findClass RX11 = some m.cls := hown
  have F : Fx p s m _ c cX11_moves 3 RX11 g aC aM A := ⟨hx, hb, hml, hown, hts, hK, hA, hM, hM2⟩
  have hl : lv_has ls 3 [(0, .ref h0), (1, .int 4)] := hl
  refine lv_iconst (v := 0) hx hb dX11_moves_0 (by decide) ?_
  refine lv_istore_n (lv' := [(2, .int 0), (0, .ref h0), (1, .int 4)]) hx hb dX11_moves_1 rfl hl (by decide) rfl (fun ls hl => ?_)
  refine W.widen (k := 0) (n := 0) (Nat.le_of_ble_eq_true rfl) (Nat.le_of_ble_eq_true rfl) ?_
  have hloop2 : ∀ (n k : Nat) (H : Heap) (locs : List Loc) (ls : Array Slot), k + n = 4 → va_P g vwCl [(h0, .inl (aC 0, 8, .inl (fun _ => 0)))] H → va_D A [(h0, .inl (aC 0, 8, .inl (fun _ => 0)))] → va_S A s.heap H locs → lv_has ls 3 [(2, .int (nI k)), (0, .ref h0), (1, .int 4)] → W p l e (rmL 1 0 0) s m [.ref h0, .int 4].toArray below meth c H locs 0 0 (MQ below (QV g (fun (_ : Unit) => True) (fun (_ : Unit) => [(h0, .inl (aC 0, 8, .inl (fun _ => 0)))]) A) [.ref h0, .int 4].toArray s 0 0 A) (F0 m 2 ls []) := by
    intro n
    induction n with
    | zero =>
      intro k  H locs ls hk  hP hD hS hl
      obtain rfl : k = 4 := by omega
      have hl : lv_has ls 3 [(2, .int 4), (0, .ref h0), (1, .int 4)] := hl
      refine lv_iload_n hx hb dX11_moves_2 rfl (lv_at hl 0 rfl) ?_
      refine lv_iload_n hx hb dX11_moves_3 rfl (lv_at hl 2 rfl) ?_
      refine lv_icmp_ge (tgt := 21) hx hb dX11_moves_4 (by decide) (fun _ => ?_) (fun c_ => absurd (by decide +kernel) c_)
      have hP9 := hP.sub (ws' := [(h0, .inl (aC 0, 8, .inl (fun _ => 0)))]) [0] rfl
      have hD9 := hD.sub (ws' := [(h0, .inl (aC 0, 8, .inl (fun _ => 0)))]) [0] (by decide) rfl
      exact rV () hx hb hr hlk hS trivial hP9 hD9 (Nat.le_of_ble_eq_true rfl) (Nat.le_of_ble_eq_true rfl) dX11_moves_21
    | succ n ih =>
      intro k  H locs ls hk  hP hD hS hl
      have hk2 : k < 4 := by omega
      refine lv_iload_n hx hb dX11_moves_2 rfl (lv_at hl 0 rfl) ?_
      refine lv_iload_n hx hb dX11_moves_3 rfl (lv_at hl 2 rfl) ?_
      refine lv_icmp_ge (tgt := 21) hx hb dX11_moves_4 (by decide) (fun c_ => absurd c_ (show ¬ (nI 4 ≤ nI k) by rw [nI_leI (by omega) (by omega)]; omega)) (fun _ => ?_)
      refine lv_aload_n hx hb dX11_moves_7 rfl (lv_at hl 1 rfl) ?_
      refine lv_iload_n hx hb dX11_moves_8 rfl (lv_at hl 0 rfl) ?_
      refine lv_aload_n hx hb dX11_moves_9 rfl (lv_at hl 1 rfl) ?_
      refine lv_iload_n hx hb dX11_moves_10 rfl (lv_at hl 2 rfl) ?_
      refine lv_iload_n hx hb dX11_moves_11 rfl (lv_at hl 0 rfl) ?_
      refine lv_iadd hx hb dX11_moves_12 ?_
      refine relit (v := (nI (k + 4))) (nadd (a := 4) (b := k) (by omega)) ?_
      refine xilo (v := 0) F hP 0 rfl (k + 4) (nI_pos (by omega)) (nI_clamp (by omega)) (by omega) rfl dX11_moves_13 ?_
      refine xist (f' := fun _ => 0) F hP hD hS 0 rfl k (nI_pos (by omega)) (nI_clamp (by omega)) (by omega) (xup0 _) dX11_moves_14 (fun H locs hP hD hS => ?_)
      have hP : va_P g vwCl [(h0, .inl (aC 0, 8, .inl (fun _ => 0)))] H := hP
      have hD : va_D A [(h0, .inl (aC 0, 8, .inl (fun _ => 0)))] := hD
      refine lv_iinc (v := (nI (k + 1))) (lv' := [(2, .int (nI (k + 1))), (0, .ref h0), (1, .int 4)]) hx hb dX11_moves_15 hl (k := 0) rfl (ninc 1 (by omega)) (by decide) rfl (fun ls hl => ?_)
      refine lv_goto (tgt := 2) hx hb dX11_moves_18 (by decide) ?_
      exact ih (k + 1)  _ _ _ (by omega) (hP.sub [0] rfl) (hD.sub [0] (by decide) rfl) hS (lv_sub hl [0, 1, 2] rfl)
  exact hloop2 4 0  _ _ _ (by omega) hP hD hS hl

set_option maxHeartbeats 4000000 in
set_option maxRecDepth 100000 in
theorem k_moves2000 (l : Launch) (g : va_G) (aC : Nat → ClassId) (aM : Nat → Nat) (h0 : Nat) : Ct l g aC aM yX11_moves cX11_moves 3 none 1 [.ref h0, .int 1000] [(h0, .inl (aC 0, 2000, .inl (fun _ => 0)))] (QV g (fun (_ : Unit) => True) (fun (_ : Unit) => [(h0, .inl (aC 0, 2000, .inl (fun _ => 0)))])) 0 0 := by
  refine Ct.mk (by decide) (Nat.le_of_ble_eq_true rfl) ?_
  intro p e s m below meth c A ls hx hb hml hown hts hr hlk hnm hK hA hM hM2 hP hD hS hl
  have hown : s.vm.findClass RX11 = some m.cls := hown
  have F : Fx p s m _ c cX11_moves 3 RX11 g aC aM A := ⟨hx, hb, hml, hown, hts, hK, hA, hM, hM2⟩
  have hl : lv_has ls 3 [(0, .ref h0), (1, .int 1000)] := hl
  refine lv_iconst (v := 0) hx hb dX11_moves_0 (by decide) ?_
  refine lv_istore_n (lv' := [(2, .int 0), (0, .ref h0), (1, .int 1000)]) hx hb dX11_moves_1 rfl hl (by decide) rfl (fun ls hl => ?_)
  refine W.widen (k := 0) (n := 0) (Nat.le_of_ble_eq_true rfl) (Nat.le_of_ble_eq_true rfl) ?_
  have hloop2 : ∀ (n k : Nat) (H : Heap) (locs : List Loc) (ls : Array Slot), k + n = 1000 → va_P g vwCl [(h0, .inl (aC 0, 2000, .inl (fun _ => 0)))] H → va_D A [(h0, .inl (aC 0, 2000, .inl (fun _ => 0)))] → va_S A s.heap H locs → lv_has ls 3 [(2, .int (nI k)), (0, .ref h0), (1, .int 1000)] → W p l e (rmL 1 0 0) s m [.ref h0, .int 1000].toArray below meth c H locs 0 0 (MQ below (QV g (fun (_ : Unit) => True) (fun (_ : Unit) => [(h0, .inl (aC 0, 2000, .inl (fun _ => 0)))]) A) [.ref h0, .int 1000].toArray s 0 0 A) (F0 m 2 ls []) := by
    intro n
    induction n with
    | zero =>
      intro k  H locs ls hk  hP hD hS hl
      obtain rfl : k = 1000 := by omega
      have hl : lv_has ls 3 [(2, .int 1000), (0, .ref h0), (1, .int 1000)] := hl
      refine lv_iload_n hx hb dX11_moves_2 rfl (lv_at hl 0 rfl) ?_
      refine lv_iload_n hx hb dX11_moves_3 rfl (lv_at hl 2 rfl) ?_
      refine lv_icmp_ge (tgt := 21) hx hb dX11_moves_4 (by decide) (fun _ => ?_) (fun c_ => absurd (by decide +kernel) c_)
      have hP9 := hP.sub (ws' := [(h0, .inl (aC 0, 2000, .inl (fun _ => 0)))]) [0] rfl
      have hD9 := hD.sub (ws' := [(h0, .inl (aC 0, 2000, .inl (fun _ => 0)))]) [0] (by decide) rfl
      exact rV () hx hb hr hlk hS trivial hP9 hD9 (Nat.le_of_ble_eq_true rfl) (Nat.le_of_ble_eq_true rfl) dX11_moves_21
    | succ n ih =>
      intro k  H locs ls hk  hP hD hS hl
      have hk2 : k < 1000 := by omega
      refine lv_iload_n hx hb dX11_moves_2 rfl (lv_at hl 0 rfl) ?_
      refine lv_iload_n hx hb dX11_moves_3 rfl (lv_at hl 2 rfl) ?_
      refine lv_icmp_ge (tgt := 21) hx hb dX11_moves_4 (by decide) (fun c_ => absurd c_ (show ¬ (nI 1000 ≤ nI k) by rw [nI_leI (by omega) (by omega)]; omega)) (fun _ => ?_)
      refine lv_aload_n hx hb dX11_moves_7 rfl (lv_at hl 1 rfl) ?_
      refine lv_iload_n hx hb dX11_moves_8 rfl (lv_at hl 0 rfl) ?_
      refine lv_aload_n hx hb dX11_moves_9 rfl (lv_at hl 1 rfl) ?_
      refine lv_iload_n hx hb dX11_moves_10 rfl (lv_at hl 2 rfl) ?_
      refine lv_iload_n hx hb dX11_moves_11 rfl (lv_at hl 0 rfl) ?_
      refine lv_iadd hx hb dX11_moves_12 ?_
      refine relit (v := (nI (k + 1000))) (nadd (a := 1000) (b := k) (by omega)) ?_
      refine xilo (v := 0) F hP 0 rfl (k + 1000) (nI_pos (by omega)) (nI_clamp (by omega)) (by omega) rfl dX11_moves_13 ?_
      refine xist (f' := fun _ => 0) F hP hD hS 0 rfl k (nI_pos (by omega)) (nI_clamp (by omega)) (by omega) (xup0 _) dX11_moves_14 (fun H locs hP hD hS => ?_)
      have hP : va_P g vwCl [(h0, .inl (aC 0, 2000, .inl (fun _ => 0)))] H := hP
      have hD : va_D A [(h0, .inl (aC 0, 2000, .inl (fun _ => 0)))] := hD
      refine lv_iinc (v := (nI (k + 1))) (lv' := [(2, .int (nI (k + 1))), (0, .ref h0), (1, .int 1000)]) hx hb dX11_moves_15 hl (k := 0) rfl (ninc 1 (by omega)) (by decide) rfl (fun ls hl => ?_)
      refine lv_goto (tgt := 2) hx hb dX11_moves_18 (by decide) ?_
      exact ih (k + 1)  _ _ _ (by omega) (hP.sub [0] rfl) (hD.sub [0] (by decide) rfl) hS (lv_sub hl [0, 1, 2] rfl)
  exact hloop2 1000 0  _ _ _ (by omega) hP hD hS hl

theorem dX11_movesNames_0 : decode cX11_movesNames 0 = .ok (.iconst 0, 1) := by decide +kernel
theorem dX11_movesNames_1 : decode cX11_movesNames 1 = .ok (.istore_n 2, 1) := by decide +kernel
theorem dX11_movesNames_2 : decode cX11_movesNames 2 = .ok (.iload_n 2, 1) := by decide +kernel
theorem dX11_movesNames_3 : decode cX11_movesNames 3 = .ok (.iload_n 1, 1) := by decide +kernel
theorem dX11_movesNames_4 : decode cX11_movesNames 4 = .ok (.if_icmp .ge 17, 3) := by decide +kernel
theorem dX11_movesNames_7 : decode cX11_movesNames 7 = .ok (.aload_n 0, 1) := by decide +kernel
theorem dX11_movesNames_8 : decode cX11_movesNames 8 = .ok (.iload_n 2, 1) := by decide +kernel
theorem dX11_movesNames_9 : decode cX11_movesNames 9 = .ok (.aload_n 0, 1) := by decide +kernel
theorem dX11_movesNames_10 : decode cX11_movesNames 10 = .ok (.iload_n 1, 1) := by decide +kernel
theorem dX11_movesNames_11 : decode cX11_movesNames 11 = .ok (.iload_n 2, 1) := by decide +kernel
theorem dX11_movesNames_12 : decode cX11_movesNames 12 = .ok (.iadd, 1) := by decide +kernel
theorem dX11_movesNames_13 : decode cX11_movesNames 13 = .ok (.laload, 1) := by decide +kernel
theorem dX11_movesNames_14 : decode cX11_movesNames 14 = .ok (.lastore, 1) := by decide +kernel
theorem dX11_movesNames_15 : decode cX11_movesNames 15 = .ok (.iinc 2 1, 3) := by decide +kernel
theorem dX11_movesNames_18 : decode cX11_movesNames 18 = .ok (.goto (-16), 3) := by decide +kernel
theorem dX11_movesNames_21 : decode cX11_movesNames 21 = .ok (.return_, 1) := by decide +kernel
set_option maxHeartbeats 4000000 in
set_option maxRecDepth 100000 in
theorem k_movesNames10 (l : Launch) (g : va_G) (aC : Nat → ClassId) (aM : Nat → Nat) (h0 : Nat) : Ct l g aC aM yX11_movesNames cX11_movesNames 3 none 1 [.ref h0, .int 5] [(h0, .inl (aC 1, 10, .inr (.inl (fun _ => 0))))] (QV g (fun (_ : Unit) => True) (fun (_ : Unit) => [(h0, .inl (aC 1, 10, .inr (.inl (fun _ => 0))))])) 0 0 := by
  refine Ct.mk (by decide) (Nat.le_of_ble_eq_true rfl) ?_
  intro p e s m below meth c A ls hx hb hml hown hts hr hlk hnm hK hA hM hM2 hP hD hS hl
  have hown : s.vm.findClass RX11 = some m.cls := hown
  have F : Fx p s m _ c cX11_movesNames 3 RX11 g aC aM A := ⟨hx, hb, hml, hown, hts, hK, hA, hM, hM2⟩
  have hl : lv_has ls 3 [(0, .ref h0), (1, .int 5)] := hl
  refine lv_iconst (v := 0) hx hb dX11_movesNames_0 (by decide) ?_
  refine lv_istore_n (lv' := [(2, .int 0), (0, .ref h0), (1, .int 5)]) hx hb dX11_movesNames_1 rfl hl (by decide) rfl (fun ls hl => ?_)
  refine W.widen (k := 0) (n := 0) (Nat.le_of_ble_eq_true rfl) (Nat.le_of_ble_eq_true rfl) ?_
  have hloop2 : ∀ (n k : Nat) (H : Heap) (locs : List Loc) (ls : Array Slot), k + n = 5 → va_P g vwCl [(h0, .inl (aC 1, 10, .inr (.inl (fun _ => 0))))] H → va_D A [(h0, .inl (aC 1, 10, .inr (.inl (fun _ => 0))))] → va_S A s.heap H locs → lv_has ls 3 [(2, .int (nI k)), (0, .ref h0), (1, .int 5)] → W p l e (rmL 1 0 0) s m [.ref h0, .int 5].toArray below meth c H locs 0 0 (MQ below (QV g (fun (_ : Unit) => True) (fun (_ : Unit) => [(h0, .inl (aC 1, 10, .inr (.inl (fun _ => 0))))]) A) [.ref h0, .int 5].toArray s 0 0 A) (F0 m 2 ls []) := by
    intro n
    induction n with
    | zero =>
      intro k  H locs ls hk  hP hD hS hl
      obtain rfl : k = 5 := by omega
      have hl : lv_has ls 3 [(2, .int 5), (0, .ref h0), (1, .int 5)] := hl
      refine lv_iload_n hx hb dX11_movesNames_2 rfl (lv_at hl 0 rfl) ?_
      refine lv_iload_n hx hb dX11_movesNames_3 rfl (lv_at hl 2 rfl) ?_
      refine lv_icmp_ge (tgt := 21) hx hb dX11_movesNames_4 (by decide) (fun _ => ?_) (fun c_ => absurd (by decide +kernel) c_)
      have hP9 := hP.sub (ws' := [(h0, .inl (aC 1, 10, .inr (.inl (fun _ => 0))))]) [0] rfl
      have hD9 := hD.sub (ws' := [(h0, .inl (aC 1, 10, .inr (.inl (fun _ => 0))))]) [0] (by decide) rfl
      exact rV () hx hb hr hlk hS trivial hP9 hD9 (Nat.le_of_ble_eq_true rfl) (Nat.le_of_ble_eq_true rfl) dX11_movesNames_21
    | succ n ih =>
      intro k  H locs ls hk  hP hD hS hl
      have hk2 : k < 5 := by omega
      refine lv_iload_n hx hb dX11_movesNames_2 rfl (lv_at hl 0 rfl) ?_
      refine lv_iload_n hx hb dX11_movesNames_3 rfl (lv_at hl 2 rfl) ?_
      refine lv_icmp_ge (tgt := 21) hx hb dX11_movesNames_4 (by decide) (fun c_ => absurd c_ (show ¬ (nI 5 ≤ nI k) by rw [nI_leI (by omega) (by omega)]; omega)) (fun _ => ?_)
      refine lv_aload_n hx hb dX11_movesNames_7 rfl (lv_at hl 1 rfl) ?_
      refine lv_iload_n hx hb dX11_movesNames_8 rfl (lv_at hl 0 rfl) ?_
      refine lv_aload_n hx hb dX11_movesNames_9 rfl (lv_at hl 1 rfl) ?_
      refine lv_iload_n hx hb dX11_movesNames_10 rfl (lv_at hl 2 rfl) ?_
      refine lv_iload_n hx hb dX11_movesNames_11 rfl (lv_at hl 0 rfl) ?_
      refine lv_iadd hx hb dX11_movesNames_12 ?_
      refine relit (v := (nI (k + 5))) (nadd (a := 5) (b := k) (by omega)) ?_
      refine xllo (v := 0) F hP 0 rfl (k + 5) (nI_pos (by omega)) (nI_clamp (by omega)) (by omega) rfl dX11_movesNames_13 ?_
      refine xlst (f' := fun _ => 0) F hP hD hS 0 rfl k (nI_pos (by omega)) (nI_clamp (by omega)) (by omega) (xup0L _) dX11_movesNames_14 (fun H locs hP hD hS => ?_)
      have hP : va_P g vwCl [(h0, .inl (aC 1, 10, .inr (.inl (fun _ => 0))))] H := hP
      have hD : va_D A [(h0, .inl (aC 1, 10, .inr (.inl (fun _ => 0))))] := hD
      refine lv_iinc (v := (nI (k + 1))) (lv' := [(2, .int (nI (k + 1))), (0, .ref h0), (1, .int 5)]) hx hb dX11_movesNames_15 hl (k := 0) rfl (ninc 1 (by omega)) (by decide) rfl (fun ls hl => ?_)
      refine lv_goto (tgt := 2) hx hb dX11_movesNames_18 (by decide) ?_
      exact ih (k + 1)  _ _ _ (by omega) (hP.sub [0] rfl) (hD.sub [0] (by decide) rfl) hS (lv_sub hl [0, 1, 2] rfl)
  exact hloop2 5 0  _ _ _ (by omega) hP hD hS hl

set_option maxHeartbeats 4000000 in
set_option maxRecDepth 100000 in
theorem k_movesNames8 (l : Launch) (g : va_G) (aC : Nat → ClassId) (aM : Nat → Nat) (h0 : Nat) : Ct l g aC aM yX11_movesNames cX11_movesNames 3 none 1 [.ref h0, .int 4] [(h0, .inl (aC 1, 8, .inr (.inl (fun _ => 0))))] (QV g (fun (_ : Unit) => True) (fun (_ : Unit) => [(h0, .inl (aC 1, 8, .inr (.inl (fun _ => 0))))])) 0 0 := by
  refine Ct.mk (by decide) (Nat.le_of_ble_eq_true rfl) ?_
  intro p e s m below meth c A ls hx hb hml hown hts hr hlk hnm hK hA hM hM2 hP hD hS hl
  have hown : s.vm.findClass RX11 = some m.cls := hown
  have F : Fx p s m _ c cX11_movesNames 3 RX11 g aC aM A := ⟨hx, hb, hml, hown, hts, hK, hA, hM, hM2⟩
  have hl : lv_has ls 3 [(0, .ref h0), (1, .int 4)] := hl
  refine lv_iconst (v := 0) hx hb dX11_movesNames_0 (by decide) ?_
  refine lv_istore_n (lv' := [(2, .int 0), (0, .ref h0), (1, .int 4)]) hx hb dX11_movesNames_1 rfl hl (by decide) rfl (fun ls hl => ?_)
  refine W.widen (k := 0) (n := 0) (Nat.le_of_ble_eq_true rfl) (Nat.le_of_ble_eq_true rfl) ?_
  have hloop2 : ∀ (n k : Nat) (H : Heap) (locs : List Loc) (ls : Array Slot), k + n = 4 → va_P g vwCl [(h0, .inl (aC 1, 8, .inr (.inl (fun _ => 0))))] H → va_D A [(h0, .inl (aC 1, 8, .inr (.inl (fun _ => 0))))] → va_S A s.heap H locs → lv_has ls 3 [(2, .int (nI k)), (0, .ref h0), (1, .int 4)] → W p l e (rmL 1 0 0) s m [.ref h0, .int 4].toArray below meth c H locs 0 0 (MQ below (QV g (fun (_ : Unit) => True) (fun (_ : Unit) => [(h0, .inl (aC 1, 8, .inr (.inl (fun _ => 0))))]) A) [.ref h0, .int 4].toArray s 0 0 A) (F0 m 2 ls []) := by
    intro n
    induction n with
    | zero =>
      intro k  H locs ls hk  hP hD hS hl
      obtain rfl : k = 4 := by omega
      have hl : lv_has ls 3 [(2, .int 4), (0, .ref h0), (1, .int 4)] := hl
      refine lv_iload_n hx hb dX11_movesNames_2 rfl (lv_at hl 0 rfl) ?_
      refine lv_iload_n hx hb dX11_movesNames_3 rfl (lv_at hl 2 rfl) ?_
      refine lv_icmp_ge (tgt := 21) hx hb dX11_movesNames_4 (by decide) (fun _ => ?_) (fun c_ => absurd (by decide +kernel) c_)
      have hP9 := hP.sub (ws' := [(h0, .inl (aC 1, 8, .inr (.inl (fun _ => 0))))]) [0] rfl
      have hD9 := hD.sub (ws' := [(h0, .inl (aC 1, 8, .inr (.inl (fun _ => 0))))]) [0] (by decide) rfl
      exact rV () hx hb hr hlk hS trivial hP9 hD9 (Nat.le_of_ble_eq_true rfl) (Nat.le_of_ble_eq_true rfl) dX11_movesNames_21
    | succ n ih =>
      intro k  H locs ls hk  hP hD hS hl
      have hk2 : k < 4 := by omega
      refine lv_iload_n hx hb dX11_movesNames_2 rfl (lv_at hl 0 rfl) ?_
      refine lv_iload_n hx hb dX11_movesNames_3 rfl (lv_at hl 2 rfl) ?_
      refine lv_icmp_ge (tgt := 21) hx hb dX11_movesNames_4 (by decide) (fun c_ => absurd c_ (show ¬ (nI 4 ≤ nI k) by rw [nI_leI (by omega) (by omega)]; omega)) (fun _ => ?_)
      refine lv_aload_n hx hb dX11_movesNames_7 rfl (lv_at hl 1 rfl) ?_
      refine lv_iload_n hx hb dX11_movesNames_8 rfl (lv_at hl 0 rfl) ?_
      refine lv_aload_n hx hb dX11_movesNames_9 rfl (lv_at hl 1 rfl) ?_
      refine lv_iload_n hx hb dX11_movesNames_10 rfl (lv_at hl 2 rfl) ?_
      refine lv_iload_n hx hb dX11_movesNames_11 rfl (lv_at hl 0 rfl) ?_
      refine lv_iadd hx hb dX11_movesNames_12 ?_
      refine relit (v := (nI (k + 4))) (nadd (a := 4) (b := k) (by omega)) ?_
      refine xllo (v := 0) F hP 0 rfl (k + 4) (nI_pos (by omega)) (nI_clamp (by omega)) (by omega) rfl dX11_movesNames_13 ?_
      refine xlst (f' := fun _ => 0) F hP hD hS 0 rfl k (nI_pos (by omega)) (nI_clamp (by omega)) (by omega) (xup0L _) dX11_movesNames_14 (fun H locs hP hD hS => ?_)
      have hP : va_P g vwCl [(h0, .inl (aC 1, 8, .inr (.inl (fun _ => 0))))] H := hP
      have hD : va_D A [(h0, .inl (aC 1, 8, .inr (.inl (fun _ => 0))))] := hD
      refine lv_iinc (v := (nI (k + 1))) (lv' := [(2, .int (nI (k + 1))), (0, .ref h0), (1, .int 4)]) hx hb dX11_movesNames_15 hl (k := 0) rfl (ninc 1 (by omega)) (by decide) rfl (fun ls hl => ?_)
      refine lv_goto (tgt := 2) hx hb dX11_movesNames_18 (by decide) ?_
      exact ih (k + 1)  _ _ _ (by omega) (hP.sub [0] rfl) (hD.sub [0] (by decide) rfl) hS (lv_sub hl [0, 1, 2] rfl)
  exact hloop2 4 0  _ _ _ (by omega) hP hD hS hl

theorem dX11_laysLines_0 : decode cX11_laysLines 0 = .ok (.aload_n 0, 1) := by decide +kernel
theorem dX11_laysLines_1 : decode cX11_laysLines 1 = .ok (.getfield 114, 3) := by decide +kernel
theorem dX11_laysLines_4 : decode cX11_laysLines 4 = .ok (.iload_n 2, 1) := by decide +kernel
theorem dX11_laysLines_5 : decode cX11_laysLines 5 = .ok (.aload_n 0, 1) := by decide +kernel
theorem dX11_laysLines_6 : decode cX11_laysLines 6 = .ok (.getfield 114, 3) := by decide +kernel
theorem dX11_laysLines_9 : decode cX11_laysLines 9 = .ok (.iload_n 1, 1) := by decide +kernel
theorem dX11_laysLines_10 : decode cX11_laysLines 10 = .ok (.iaload, 1) := by decide +kernel
theorem dX11_laysLines_11 : decode cX11_laysLines 11 = .ok (.iastore, 1) := by decide +kernel
theorem dX11_laysLines_12 : decode cX11_laysLines 12 = .ok (.iconst 0, 1) := by decide +kernel
theorem dX11_laysLines_13 : decode cX11_laysLines 13 = .ok (.istore_n 3, 1) := by decide +kernel
theorem dX11_laysLines_14 : decode cX11_laysLines 14 = .ok (.iload_n 3, 1) := by decide +kernel
theorem dX11_laysLines_15 : decode cX11_laysLines 15 = .ok (.bipush 40, 2) := by decide +kernel
theorem dX11_laysLines_17 : decode cX11_laysLines 17 = .ok (.if_icmp .ge 97, 3) := by decide +kernel
theorem dX11_laysLines_20 : decode cX11_laysLines 20 = .ok (.aload_n 0, 1) := by decide +kernel
theorem dX11_laysLines_21 : decode cX11_laysLines 21 = .ok (.getfield 117, 3) := by decide +kernel
theorem dX11_laysLines_24 : decode cX11_laysLines 24 = .ok (.bipush 40, 2) := by decide +kernel
theorem dX11_laysLines_26 : decode cX11_laysLines 26 = .ok (.iload_n 2, 1) := by decide +kernel
theorem dX11_laysLines_27 : decode cX11_laysLines 27 = .ok (.imul, 1) := by decide +kernel
theorem dX11_laysLines_28 : decode cX11_laysLines 28 = .ok (.iload_n 3, 1) := by decide +kernel
theorem dX11_laysLines_29 : decode cX11_laysLines 29 = .ok (.iadd, 1) := by decide +kernel
theorem dX11_laysLines_30 : decode cX11_laysLines 30 = .ok (.aload_n 0, 1) := by decide +kernel
theorem dX11_laysLines_31 : decode cX11_laysLines 31 = .ok (.getfield 117, 3) := by decide +kernel
theorem dX11_laysLines_34 : decode cX11_laysLines 34 = .ok (.bipush 40, 2) := by decide +kernel
theorem dX11_laysLines_36 : decode cX11_laysLines 36 = .ok (.iload_n 1, 1) := by decide +kernel
theorem dX11_laysLines_37 : decode cX11_laysLines 37 = .ok (.imul, 1) := by decide +kernel
theorem dX11_laysLines_38 : decode cX11_laysLines 38 = .ok (.iload_n 3, 1) := by decide +kernel
theorem dX11_laysLines_39 : decode cX11_laysLines 39 = .ok (.iadd, 1) := by decide +kernel
theorem dX11_laysLines_40 : decode cX11_laysLines 40 = .ok (.iaload, 1) := by decide +kernel
theorem dX11_laysLines_41 : decode cX11_laysLines 41 = .ok (.iastore, 1) := by decide +kernel
theorem dX11_laysLines_42 : decode cX11_laysLines 42 = .ok (.aload_n 0, 1) := by decide +kernel
theorem dX11_laysLines_43 : decode cX11_laysLines 43 = .ok (.getfield 120, 3) := by decide +kernel
theorem dX11_laysLines_46 : decode cX11_laysLines 46 = .ok (.bipush 40, 2) := by decide +kernel
theorem dX11_laysLines_48 : decode cX11_laysLines 48 = .ok (.iload_n 2, 1) := by decide +kernel
theorem dX11_laysLines_49 : decode cX11_laysLines 49 = .ok (.imul, 1) := by decide +kernel
theorem dX11_laysLines_50 : decode cX11_laysLines 50 = .ok (.iload_n 3, 1) := by decide +kernel
theorem dX11_laysLines_51 : decode cX11_laysLines 51 = .ok (.iadd, 1) := by decide +kernel
theorem dX11_laysLines_52 : decode cX11_laysLines 52 = .ok (.aload_n 0, 1) := by decide +kernel
theorem dX11_laysLines_53 : decode cX11_laysLines 53 = .ok (.getfield 120, 3) := by decide +kernel
theorem dX11_laysLines_56 : decode cX11_laysLines 56 = .ok (.bipush 40, 2) := by decide +kernel
theorem dX11_laysLines_58 : decode cX11_laysLines 58 = .ok (.iload_n 1, 1) := by decide +kernel
theorem dX11_laysLines_59 : decode cX11_laysLines 59 = .ok (.imul, 1) := by decide +kernel
theorem dX11_laysLines_60 : decode cX11_laysLines 60 = .ok (.iload_n 3, 1) := by decide +kernel
theorem dX11_laysLines_61 : decode cX11_laysLines 61 = .ok (.iadd, 1) := by decide +kernel
theorem dX11_laysLines_62 : decode cX11_laysLines 62 = .ok (.iaload, 1) := by decide +kernel
theorem dX11_laysLines_63 : decode cX11_laysLines 63 = .ok (.iastore, 1) := by decide +kernel
theorem dX11_laysLines_64 : decode cX11_laysLines 64 = .ok (.aload_n 0, 1) := by decide +kernel
theorem dX11_laysLines_65 : decode cX11_laysLines 65 = .ok (.getfield 123, 3) := by decide +kernel
theorem dX11_laysLines_68 : decode cX11_laysLines 68 = .ok (.bipush 40, 2) := by decide +kernel
theorem dX11_laysLines_70 : decode cX11_laysLines 70 = .ok (.iload_n 2, 1) := by decide +kernel
theorem dX11_laysLines_71 : decode cX11_laysLines 71 = .ok (.imul, 1) := by decide +kernel
theorem dX11_laysLines_72 : decode cX11_laysLines 72 = .ok (.iload_n 3, 1) := by decide +kernel
theorem dX11_laysLines_73 : decode cX11_laysLines 73 = .ok (.iadd, 1) := by decide +kernel
theorem dX11_laysLines_74 : decode cX11_laysLines 74 = .ok (.aload_n 0, 1) := by decide +kernel
theorem dX11_laysLines_75 : decode cX11_laysLines 75 = .ok (.getfield 123, 3) := by decide +kernel
theorem dX11_laysLines_78 : decode cX11_laysLines 78 = .ok (.bipush 40, 2) := by decide +kernel
theorem dX11_laysLines_80 : decode cX11_laysLines 80 = .ok (.iload_n 1, 1) := by decide +kernel
theorem dX11_laysLines_81 : decode cX11_laysLines 81 = .ok (.imul, 1) := by decide +kernel
theorem dX11_laysLines_82 : decode cX11_laysLines 82 = .ok (.iload_n 3, 1) := by decide +kernel
theorem dX11_laysLines_83 : decode cX11_laysLines 83 = .ok (.iadd, 1) := by decide +kernel
theorem dX11_laysLines_84 : decode cX11_laysLines 84 = .ok (.iaload, 1) := by decide +kernel
theorem dX11_laysLines_85 : decode cX11_laysLines 85 = .ok (.iastore, 1) := by decide +kernel
theorem dX11_laysLines_86 : decode cX11_laysLines 86 = .ok (.aload_n 0, 1) := by decide +kernel
theorem dX11_laysLines_87 : decode cX11_laysLines 87 = .ok (.getfield 126, 3) := by decide +kernel
theorem dX11_laysLines_90 : decode cX11_laysLines 90 = .ok (.bipush 40, 2) := by decide +kernel
theorem dX11_laysLines_92 : decode cX11_laysLines 92 = .ok (.iload_n 2, 1) := by decide +kernel
theorem dX11_laysLines_93 : decode cX11_laysLines 93 = .ok (.imul, 1) := by decide +kernel
theorem dX11_laysLines_94 : decode cX11_laysLines 94 = .ok (.iload_n 3, 1) := by decide +kernel
theorem dX11_laysLines_95 : decode cX11_laysLines 95 = .ok (.iadd, 1) := by decide +kernel
theorem dX11_laysLines_96 : decode cX11_laysLines 96 = .ok (.aload_n 0, 1) := by decide +kernel
theorem dX11_laysLines_97 : decode cX11_laysLines 97 = .ok (.getfield 126, 3) := by decide +kernel
theorem dX11_laysLines_100 : decode cX11_laysLines 100 = .ok (.bipush 40, 2) := by decide +kernel
theorem dX11_laysLines_102 : decode cX11_laysLines 102 = .ok (.iload_n 1, 1) := by decide +kernel
theorem dX11_laysLines_103 : decode cX11_laysLines 103 = .ok (.imul, 1) := by decide +kernel
theorem dX11_laysLines_104 : decode cX11_laysLines 104 = .ok (.iload_n 3, 1) := by decide +kernel
theorem dX11_laysLines_105 : decode cX11_laysLines 105 = .ok (.iadd, 1) := by decide +kernel
theorem dX11_laysLines_106 : decode cX11_laysLines 106 = .ok (.iaload, 1) := by decide +kernel
theorem dX11_laysLines_107 : decode cX11_laysLines 107 = .ok (.iastore, 1) := by decide +kernel
theorem dX11_laysLines_108 : decode cX11_laysLines 108 = .ok (.iinc 3 1, 3) := by decide +kernel
theorem dX11_laysLines_111 : decode cX11_laysLines 111 = .ok (.goto (-97), 3) := by decide +kernel
theorem dX11_laysLines_114 : decode cX11_laysLines 114 = .ok (.return_, 1) := by decide +kernel
set_option maxHeartbeats 4000000 in
set_option maxRecDepth 100000 in
theorem k_laysLines_5_0 (l : Launch) (g : va_G) (aC : Nat → ClassId) (aM : Nat → Nat) (h0 h1 h2 h3 h4 h5 : Nat) (x0 x1 x2 x3 x4 x5 x6 x7 x8 x9 x10 x11 x12 x13 x14 x15 x16 x17 x18 x19 x20 x21 x22 x23 x24 x25 x26 x27 x28 x29 x30 x31 x32 x33 x34 x35 x36 x37 x38 x39 x40 x41 x42 x43 x44 x45 x51 x52 x53 x54 x55 x56 x57 x58 x59 x60 x61 x62 x63 x64 x65 x66 x67 x68 x69 x70 x71 x72 x73 : Value) : Ct l g aC aM yX11_laysLines cX11_laysLines 4 none 1 [.ref h0, .int 5, .int 0] [(h0, .inr (11, [x0, x1, x2, x3, x4, x5, x6, x7, x8, x9, x10, x11, x12, x13, x14, x15, x16, x17, x18, x19, x20, x21, x22, x23, x24, x25, x26, x27, x28, x29, x30, x31, x32, x33, x34, x35, x36, x37, x38, x39, x40, x41, x42, x43, x44, x45, .ref h1, .ref h2, .ref h3, .ref h4, .ref h5, x51, x52, x53, x54, x55, x56, x57, x58, x59, x60, x61, x62, x63, x64, x65, x66, x67, x68, x69, x70, x71, x72, x73])), (h1, .inl (aC 0, 6, .inl (fun _ => 0))), (h2, .inl (aC 0, 240, .inl (fun _ => 0))), (h3, .inl (aC 0, 240, .inl (fun _ => 0))), (h4, .inl (aC 0, 240, .inl (fun _ => 0))), (h5, .inl (aC 0, 240, .inl (fun _ => 0)))] (QV g (fun (_ : Unit) => True) (fun (_ : Unit) => [(h0, .inr (11, [x0, x1, x2, x3, x4, x5, x6, x7, x8, x9, x10, x11, x12, x13, x14, x15, x16, x17, x18, x19, x20, x21, x22, x23, x24, x25, x26, x27, x28, x29, x30, x31, x32, x33, x34, x35, x36, x37, x38, x39, x40, x41, x42, x43, x44, x45, .ref h1, .ref h2, .ref h3, .ref h4, .ref h5, x51, x52, x53, x54, x55, x56, x57, x58, x59, x60, x61, x62, x63, x64, x65, x66, x67, x68, x69, x70, x71, x72, x73])), (h1, .inl (aC 0, 6, .inl (fun _ => 0))), (h2, .inl (aC 0, 240, .inl (fun _ => 0))), (h3, .inl (aC 0, 240, .inl (fun _ => 0))), (h4, .inl (aC 0, 240, .inl (fun _ => 0))), (h5, .inl (aC 0, 240, .inl (fun _ => 0)))])) 0 0 := by
  refine Ct.mk (by decide) (Nat.le_of_ble_eq_true rfl) ?_
  intro p e s m below meth c A ls hx hb hml hown hts hr hlk hnm hK hA hM hM2 hP hD hS hl
  have hown : s.vm.findClass RX11 = some m.cls := hown
  have F : Fx p s m _ c cX11_laysLines 4 RX11 g aC aM A := ⟨hx, hb, hml, hown, hts, hK, hA, hM, hM2⟩
  have hl : lv_has ls 4 [(0, .ref h0), (1, .int 5), (2, .int 0)] := hl
  refine lv_aload_n hx hb dX11_laysLines_0 rfl (lv_at hl 0 rfl) ?_
  refine xget F hP 0 rfl rfl inX11 46 (by decide) tb1228 rfl dX11_laysLines_1 ?_
  refine lv_iload_n hx hb dX11_laysLines_4 rfl (lv_at hl 2 rfl) ?_
  refine lv_aload_n hx hb dX11_laysLines_5 rfl (lv_at hl 0 rfl) ?_
  refine xget F hP 0 rfl rfl inX11 46 (by decide) tb1228 rfl dX11_laysLines_6 ?_
  refine lv_iload_n hx hb dX11_laysLines_9 rfl (lv_at hl 1 rfl) ?_
  refine xilo (v := 0) F hP 1 rfl 5 (by decide +kernel) (by decide +kernel) (by decide) (by decide +kernel) dX11_laysLines_10 ?_
  refine xist (f' := fun _ => 0) F hP hD hS 1 rfl 0 (by decide +kernel) (by decide +kernel) (by decide) (xup0 _) dX11_laysLines_11 (fun H locs hP hD hS => ?_)
  have hP : va_P g vwCl [(h0, .inr (11, [x0, x1, x2, x3, x4, x5, x6, x7, x8, x9, x10, x11, x12, x13, x14, x15, x16, x17, x18, x19, x20, x21, x22, x23, x24, x25, x26, x27, x28, x29, x30, x31, x32, x33, x34, x35, x36, x37, x38, x39, x40, x41, x42, x43, x44, x45, .ref h1, .ref h2, .ref h3, .ref h4, .ref h5, x51, x52, x53, x54, x55, x56, x57, x58, x59, x60, x61, x62, x63, x64, x65, x66, x67, x68, x69, x70, x71, x72, x73])), (h1, .inl (aC 0, 6, .inl (fun _ => 0))), (h2, .inl (aC 0, 240, .inl (fun _ => 0))), (h3, .inl (aC 0, 240, .inl (fun _ => 0))), (h4, .inl (aC 0, 240, .inl (fun _ => 0))), (h5, .inl (aC 0, 240, .inl (fun _ => 0)))] H := hP
  have hD : va_D A [(h0, .inr (11, [x0, x1, x2, x3, x4, x5, x6, x7, x8, x9, x10, x11, x12, x13, x14, x15, x16, x17, x18, x19, x20, x21, x22, x23, x24, x25, x26, x27, x28, x29, x30, x31, x32, x33, x34, x35, x36, x37, x38, x39, x40, x41, x42, x43, x44, x45, .ref h1, .ref h2, .ref h3, .ref h4, .ref h5, x51, x52, x53, x54, x55, x56, x57, x58, x59, x60, x61, x62, x63, x64, x65, x66, x67, x68, x69, x70, x71, x72, x73])), (h1, .inl (aC 0, 6, .inl (fun _ => 0))), (h2, .inl (aC 0, 240, .inl (fun _ => 0))), (h3, .inl (aC 0, 240, .inl (fun _ => 0))), (h4, .inl (aC 0, 240, .inl (fun _ => 0))), (h5, .inl (aC 0, 240, .inl (fun _ => 0)))] := hD
  refine lv_iconst (v := 0) hx hb dX11_laysLines_12 (by decide) ?_
  refine lv_istore_n (lv' := [(3, .int 0), (0, .ref h0), (1, .int 5), (2, .int 0)]) hx hb dX11_laysLines_13 rfl hl (by decide) rfl (fun ls hl => ?_)
  refine W.widen (k := 0) (n := 0) (Nat.le_of_ble_eq_true rfl) (Nat.le_of_ble_eq_true rfl) ?_
  have hloop14 : ∀ (n k : Nat) (H : Heap) (locs : List Loc) (ls : Array Slot), k + n = 40 → va_P g vwCl [(h0, .inr (11, [x0, x1, x2, x3, x4, x5, x6, x7, x8, x9, x10, x11, x12, x13, x14, x15, x16, x17, x18, x19, x20, x21, x22, x23, x24, x25, x26, x27, x28, x29, x30, x31, x32, x33, x34, x35, x36, x37, x38, x39, x40, x41, x42, x43, x44, x45, .ref h1, .ref h2, .ref h3, .ref h4, .ref h5, x51, x52, x53, x54, x55, x56, x57, x58, x59, x60, x61, x62, x63, x64, x65, x66, x67, x68, x69, x70, x71, x72, x73])), (h1, .inl (aC 0, 6, .inl (fun _ => 0))), (h2, .inl (aC 0, 240, .inl (fun _ => 0))), (h3, .inl (aC 0, 240, .inl (fun _ => 0))), (h4, .inl (aC 0, 240, .inl (fun _ => 0))), (h5, .inl (aC 0, 240, .inl (fun _ => 0)))] H → va_D A [(h0, .inr (11, [x0, x1, x2, x3, x4, x5, x6, x7, x8, x9, x10, x11, x12, x13, x14, x15, x16, x17, x18, x19, x20, x21, x22, x23, x24, x25, x26, x27, x28, x29, x30, x31, x32, x33, x34, x35, x36, x37, x38, x39, x40, x41, x42, x43, x44, x45, .ref h1, .ref h2, .ref h3, .ref h4, .ref h5, x51, x52, x53, x54, x55, x56, x57, x58, x59, x60, x61, x62, x63, x64, x65, x66, x67, x68, x69, x70, x71, x72, x73])), (h1, .inl (aC 0, 6, .inl (fun _ => 0))), (h2, .inl (aC 0, 240, .inl (fun _ => 0))), (h3, .inl (aC 0, 240, .inl (fun _ => 0))), (h4, .inl (aC 0, 240, .inl (fun _ => 0))), (h5, .inl (aC 0, 240, .inl (fun _ => 0)))] → va_S A s.heap H locs → lv_has ls 4 [(3, .int (nI k)), (0, .ref h0), (1, .int 5), (2, .int 0)] → W p l e (rmL 1 0 0) s m [.ref h0, .int 5, .int 0].toArray below meth c H locs 0 0 (MQ below (QV g (fun (_ : Unit) => True) (fun (_ : Unit) => [(h0, .inr (11, [x0, x1, x2, x3, x4, x5, x6, x7, x8, x9, x10, x11, x12, x13, x14, x15, x16, x17, x18, x19, x20, x21, x22, x23, x24, x25, x26, x27, x28, x29, x30, x31, x32, x33, x34, x35, x36, x37, x38, x39, x40, x41, x42, x43, x44, x45, .ref h1, .ref h2, .ref h3, .ref h4, .ref h5, x51, x52, x53, x54, x55, x56, x57, x58, x59, x60, x61, x62, x63, x64, x65, x66, x67, x68, x69, x70, x71, x72, x73])), (h1, .inl (aC 0, 6, .inl (fun _ => 0))), (h2, .inl (aC 0, 240, .inl (fun _ => 0))), (h3, .inl (aC 0, 240, .inl (fun _ => 0))), (h4, .inl (aC 0, 240, .inl (fun _ => 0))), (h5, .inl (aC 0, 240, .inl (fun _ => 0)))]) A) [.ref h0, .int 5, .int 0].toArray s 0 0 A) (F0 m 14 ls []) := by
    intro n
    induction n with
    | zero =>
      intro k  H locs ls hk  hP hD hS hl
      obtain rfl : k = 40 := by omega
      have hl : lv_has ls 4 [(3, .int 40), (0, .ref h0), (1, .int 5), (2, .int 0)] := hl
      refine lv_iload_n hx hb dX11_laysLines_14 rfl (lv_at hl 0 rfl) ?_
      refine lv_bipush (v := 40) hx hb dX11_laysLines_15 (by decide) ?_
      refine lv_icmp_ge (tgt := 114) hx hb dX11_laysLines_17 (by decide) (fun _ => ?_) (fun c_ => absurd (by decide +kernel) c_)
      have hP9 := hP.sub (ws' := [(h0, .inr (11, [x0, x1, x2, x3, x4, x5, x6, x7, x8, x9, x10, x11, x12, x13, x14, x15, x16, x17, x18, x19, x20, x21, x22, x23, x24, x25, x26, x27, x28, x29, x30, x31, x32, x33, x34, x35, x36, x37, x38, x39, x40, x41, x42, x43, x44, x45, .ref h1, .ref h2, .ref h3, .ref h4, .ref h5, x51, x52, x53, x54, x55, x56, x57, x58, x59, x60, x61, x62, x63, x64, x65, x66, x67, x68, x69, x70, x71, x72, x73])), (h1, .inl (aC 0, 6, .inl (fun _ => 0))), (h2, .inl (aC 0, 240, .inl (fun _ => 0))), (h3, .inl (aC 0, 240, .inl (fun _ => 0))), (h4, .inl (aC 0, 240, .inl (fun _ => 0))), (h5, .inl (aC 0, 240, .inl (fun _ => 0)))]) [0, 1, 2, 3, 4, 5] rfl
      have hD9 := hD.sub (ws' := [(h0, .inr (11, [x0, x1, x2, x3, x4, x5, x6, x7, x8, x9, x10, x11, x12, x13, x14, x15, x16, x17, x18, x19, x20, x21, x22, x23, x24, x25, x26, x27, x28, x29, x30, x31, x32, x33, x34, x35, x36, x37, x38, x39, x40, x41, x42, x43, x44, x45, .ref h1, .ref h2, .ref h3, .ref h4, .ref h5, x51, x52, x53, x54, x55, x56, x57, x58, x59, x60, x61, x62, x63, x64, x65, x66, x67, x68, x69, x70, x71, x72, x73])), (h1, .inl (aC 0, 6, .inl (fun _ => 0))), (h2, .inl (aC 0, 240, .inl (fun _ => 0))), (h3, .inl (aC 0, 240, .inl (fun _ => 0))), (h4, .inl (aC 0, 240, .inl (fun _ => 0))), (h5, .inl (aC 0, 240, .inl (fun _ => 0)))]) [0, 1, 2, 3, 4, 5] (by decide) rfl
      exact rV () hx hb hr hlk hS trivial hP9 hD9 (Nat.le_of_ble_eq_true rfl) (Nat.le_of_ble_eq_true rfl) dX11_laysLines_114
    | succ n ih =>
      intro k  H locs ls hk  hP hD hS hl
      have hk2 : k < 40 := by omega
      refine lv_iload_n hx hb dX11_laysLines_14 rfl (lv_at hl 0 rfl) ?_
      refine lv_bipush (v := 40) hx hb dX11_laysLines_15 (by decide) ?_
      refine lv_icmp_ge (tgt := 114) hx hb dX11_laysLines_17 (by decide) (fun c_ => absurd c_ (show ¬ (nI 40 ≤ nI k) by rw [nI_leI (by omega) (by omega)]; omega)) (fun _ => ?_)
      refine lv_aload_n hx hb dX11_laysLines_20 rfl (lv_at hl 1 rfl) ?_
      refine xget F hP 0 rfl rfl inX11 47 (by decide) tb1229 rfl dX11_laysLines_21 ?_
      refine lv_bipush (v := 40) hx hb dX11_laysLines_24 (by decide) ?_
      refine lv_iload_n hx hb dX11_laysLines_26 rfl (lv_at hl 3 rfl) ?_
      refine lv_imul hx hb dX11_laysLines_27 ?_
      refine relit (v := 0) (by decide +kernel) ?_
      refine lv_iload_n hx hb dX11_laysLines_28 rfl (lv_at hl 0 rfl) ?_
      refine lv_iadd hx hb dX11_laysLines_29 ?_
      refine relit (v := (nI k)) (nadd (a := 0) (b := k) (by omega)) ?_
      refine lv_aload_n hx hb dX11_laysLines_30 rfl (lv_at hl 1 rfl) ?_
      refine xget F hP 0 rfl rfl inX11 47 (by decide) tb1229 rfl dX11_laysLines_31 ?_
      refine lv_bipush (v := 40) hx hb dX11_laysLines_34 (by decide) ?_
      refine lv_iload_n hx hb dX11_laysLines_36 rfl (lv_at hl 2 rfl) ?_
      refine lv_imul hx hb dX11_laysLines_37 ?_
      refine relit (v := 200) (by decide +kernel) ?_
      refine lv_iload_n hx hb dX11_laysLines_38 rfl (lv_at hl 0 rfl) ?_
      refine lv_iadd hx hb dX11_laysLines_39 ?_
      refine relit (v := (nI (k + 200))) (nadd (a := 200) (b := k) (by omega)) ?_
      refine xilo (v := 0) F hP 2 rfl (k + 200) (nI_pos (by omega)) (nI_clamp (by omega)) (by omega) rfl dX11_laysLines_40 ?_
      refine xist (f' := fun _ => 0) F hP hD hS 2 rfl k (nI_pos (by omega)) (nI_clamp (by omega)) (by omega) (xup0 _) dX11_laysLines_41 (fun H locs hP hD hS => ?_)
      have hP : va_P g vwCl [(h0, .inr (11, [x0, x1, x2, x3, x4, x5, x6, x7, x8, x9, x10, x11, x12, x13, x14, x15, x16, x17, x18, x19, x20, x21, x22, x23, x24, x25, x26, x27, x28, x29, x30, x31, x32, x33, x34, x35, x36, x37, x38, x39, x40, x41, x42, x43, x44, x45, .ref h1, .ref h2, .ref h3, .ref h4, .ref h5, x51, x52, x53, x54, x55, x56, x57, x58, x59, x60, x61, x62, x63, x64, x65, x66, x67, x68, x69, x70, x71, x72, x73])), (h1, .inl (aC 0, 6, .inl (fun _ => 0))), (h2, .inl (aC 0, 240, .inl (fun _ => 0))), (h3, .inl (aC 0, 240, .inl (fun _ => 0))), (h4, .inl (aC 0, 240, .inl (fun _ => 0))), (h5, .inl (aC 0, 240, .inl (fun _ => 0)))] H := hP
      have hD : va_D A [(h0, .inr (11, [x0, x1, x2, x3, x4, x5, x6, x7, x8, x9, x10, x11, x12, x13, x14, x15, x16, x17, x18, x19, x20, x21, x22, x23, x24, x25, x26, x27, x28, x29, x30, x31, x32, x33, x34, x35, x36, x37, x38, x39, x40, x41, x42, x43, x44, x45, .ref h1, .ref h2, .ref h3, .ref h4, .ref h5, x51, x52, x53, x54, x55, x56, x57, x58, x59, x60, x61, x62, x63, x64, x65, x66, x67, x68, x69, x70, x71, x72, x73])), (h1, .inl (aC 0, 6, .inl (fun _ => 0))), (h2, .inl (aC 0, 240, .inl (fun _ => 0))), (h3, .inl (aC 0, 240, .inl (fun _ => 0))), (h4, .inl (aC 0, 240, .inl (fun _ => 0))), (h5, .inl (aC 0, 240, .inl (fun _ => 0)))] := hD
      refine lv_aload_n hx hb dX11_laysLines_42 rfl (lv_at hl 1 rfl) ?_
      refine xget F hP 0 rfl rfl inX11 48 (by decide) tb1230 rfl dX11_laysLines_43 ?_
      refine lv_bipush (v := 40) hx hb dX11_laysLines_46 (by decide) ?_
      refine lv_iload_n hx hb dX11_laysLines_48 rfl (lv_at hl 3 rfl) ?_
      refine lv_imul hx hb dX11_laysLines_49 ?_
      refine relit (v := 0) (by decide +kernel) ?_
      refine lv_iload_n hx hb dX11_laysLines_50 rfl (lv_at hl 0 rfl) ?_
      refine lv_iadd hx hb dX11_laysLines_51 ?_
      refine relit (v := (nI k)) (nadd (a := 0) (b := k) (by omega)) ?_
      refine lv_aload_n hx hb dX11_laysLines_52 rfl (lv_at hl 1 rfl) ?_
      refine xget F hP 0 rfl rfl inX11 48 (by decide) tb1230 rfl dX11_laysLines_53 ?_
      refine lv_bipush (v := 40) hx hb dX11_laysLines_56 (by decide) ?_
      refine lv_iload_n hx hb dX11_laysLines_58 rfl (lv_at hl 2 rfl) ?_
      refine lv_imul hx hb dX11_laysLines_59 ?_
      refine relit (v := 200) (by decide +kernel) ?_
      refine lv_iload_n hx hb dX11_laysLines_60 rfl (lv_at hl 0 rfl) ?_
      refine lv_iadd hx hb dX11_laysLines_61 ?_
      refine relit (v := (nI (k + 200))) (nadd (a := 200) (b := k) (by omega)) ?_
      refine xilo (v := 0) F hP 3 rfl (k + 200) (nI_pos (by omega)) (nI_clamp (by omega)) (by omega) rfl dX11_laysLines_62 ?_
      refine xist (f' := fun _ => 0) F hP hD hS 3 rfl k (nI_pos (by omega)) (nI_clamp (by omega)) (by omega) (xup0 _) dX11_laysLines_63 (fun H locs hP hD hS => ?_)
      have hP : va_P g vwCl [(h0, .inr (11, [x0, x1, x2, x3, x4, x5, x6, x7, x8, x9, x10, x11, x12, x13, x14, x15, x16, x17, x18, x19, x20, x21, x22, x23, x24, x25, x26, x27, x28, x29, x30, x31, x32, x33, x34, x35, x36, x37, x38, x39, x40, x41, x42, x43, x44, x45, .ref h1, .ref h2, .ref h3, .ref h4, .ref h5, x51, x52, x53, x54, x55, x56, x57, x58, x59, x60, x61, x62, x63, x64, x65, x66, x67, x68, x69, x70, x71, x72, x73])), (h1, .inl (aC 0, 6, .inl (fun _ => 0))), (h2, .inl (aC 0, 240, .inl (fun _ => 0))), (h3, .inl (aC 0, 240, .inl (fun _ => 0))), (h4, .inl (aC 0, 240, .inl (fun _ => 0))), (h5, .inl (aC 0, 240, .inl (fun _ => 0)))] H := hP
      have hD : va_D A [(h0, .inr (11, [x0, x1, x2, x3, x4, x5, x6, x7, x8, x9, x10, x11, x12, x13, x14, x15, x16, x17, x18, x19, x20, x21, x22, x23, x24, x25, x26, x27, x28, x29, x30, x31, x32, x33, x34, x35, x36, x37, x38, x39, x40, x41, x42, x43, x44, x45, .ref h1, .ref h2, .ref h3, .ref h4, .ref h5, x51, x52, x53, x54, x55, x56, x57, x58, x59, x60, x61, x62, x63, x64, x65, x66, x67, x68, x69, x70, x71, x72, x73])), (h1, .inl (aC 0, 6, .inl (fun _ => 0))), (h2, .inl (aC 0, 240, .inl (fun _ => 0))), (h3, .inl (aC 0, 240, .inl (fun _ => 0))), (h4, .inl (aC 0, 240, .inl (fun _ => 0))), (h5, .inl (aC 0, 240, .inl (fun _ => 0)))] := hD
      refine lv_aload_n hx hb dX11_laysLines_64 rfl (lv_at hl 1 rfl) ?_
      refine xget F hP 0 rfl rfl inX11 49 (by decide) tb1231 rfl dX11_laysLines_65 ?_
      refine lv_bipush (v := 40) hx hb dX11_laysLines_68 (by decide) ?_
      refine lv_iload_n hx hb dX11_laysLines_70 rfl (lv_at hl 3 rfl) ?_
      refine lv_imul hx hb dX11_laysLines_71 ?_
      refine relit (v := 0) (by decide +kernel) ?_
      refine lv_iload_n hx hb dX11_laysLines_72 rfl (lv_at hl 0 rfl) ?_
      refine lv_iadd hx hb dX11_laysLines_73 ?_
      refine relit (v := (nI k)) (nadd (a := 0) (b := k) (by omega)) ?_
      refine lv_aload_n hx hb dX11_laysLines_74 rfl (lv_at hl 1 rfl) ?_
      refine xget F hP 0 rfl rfl inX11 49 (by decide) tb1231 rfl dX11_laysLines_75 ?_
      refine lv_bipush (v := 40) hx hb dX11_laysLines_78 (by decide) ?_
      refine lv_iload_n hx hb dX11_laysLines_80 rfl (lv_at hl 2 rfl) ?_
      refine lv_imul hx hb dX11_laysLines_81 ?_
      refine relit (v := 200) (by decide +kernel) ?_
      refine lv_iload_n hx hb dX11_laysLines_82 rfl (lv_at hl 0 rfl) ?_
      refine lv_iadd hx hb dX11_laysLines_83 ?_
      refine relit (v := (nI (k + 200))) (nadd (a := 200) (b := k) (by omega)) ?_
      refine xilo (v := 0) F hP 4 rfl (k + 200) (nI_pos (by omega)) (nI_clamp (by omega)) (by omega) rfl dX11_laysLines_84 ?_
      refine xist (f' := fun _ => 0) F hP hD hS 4 rfl k (nI_pos (by omega)) (nI_clamp (by omega)) (by omega) (xup0 _) dX11_laysLines_85 (fun H locs hP hD hS => ?_)
      have hP : va_P g vwCl [(h0, .inr (11, [x0, x1, x2, x3, x4, x5, x6, x7, x8, x9, x10, x11, x12, x13, x14, x15, x16, x17, x18, x19, x20, x21, x22, x23, x24, x25, x26, x27, x28, x29, x30, x31, x32, x33, x34, x35, x36, x37, x38, x39, x40, x41, x42, x43, x44, x45, .ref h1, .ref h2, .ref h3, .ref h4, .ref h5, x51, x52, x53, x54, x55, x56, x57, x58, x59, x60, x61, x62, x63, x64, x65, x66, x67, x68, x69, x70, x71, x72, x73])), (h1, .inl (aC 0, 6, .inl (fun _ => 0))), (h2, .inl (aC 0, 240, .inl (fun _ => 0))), (h3, .inl (aC 0, 240, .inl (fun _ => 0))), (h4, .inl (aC 0, 240, .inl (fun _ => 0))), (h5, .inl (aC 0, 240, .inl (fun _ => 0)))] H := hP
      have hD : va_D A [(h0, .inr (11, [x0, x1, x2, x3, x4, x5, x6, x7, x8, x9, x10, x11, x12, x13, x14, x15, x16, x17, x18, x19, x20, x21, x22, x23, x24, x25, x26, x27, x28, x29, x30, x31, x32, x33, x34, x35, x36, x37, x38, x39, x40, x41, x42, x43, x44, x45, .ref h1, .ref h2, .ref h3, .ref h4, .ref h5, x51, x52, x53, x54, x55, x56, x57, x58, x59, x60, x61, x62, x63, x64, x65, x66, x67, x68, x69, x70, x71, x72, x73])), (h1, .inl (aC 0, 6, .inl (fun _ => 0))), (h2, .inl (aC 0, 240, .inl (fun _ => 0))), (h3, .inl (aC 0, 240, .inl (fun _ => 0))), (h4, .inl (aC 0, 240, .inl (fun _ => 0))), (h5, .inl (aC 0, 240, .inl (fun _ => 0)))] := hD
      refine lv_aload_n hx hb dX11_laysLines_86 rfl (lv_at hl 1 rfl) ?_
      refine xget F hP 0 rfl rfl inX11 50 (by decide) tb1232 rfl dX11_laysLines_87 ?_
      refine lv_bipush (v := 40) hx hb dX11_laysLines_90 (by decide) ?_
      refine lv_iload_n hx hb dX11_laysLines_92 rfl (lv_at hl 3 rfl) ?_
      refine lv_imul hx hb dX11_laysLines_93 ?_
      refine relit (v := 0) (by decide +kernel) ?_
      refine lv_iload_n hx hb dX11_laysLines_94 rfl (lv_at hl 0 rfl) ?_
      refine lv_iadd hx hb dX11_laysLines_95 ?_
      refine relit (v := (nI k)) (nadd (a := 0) (b := k) (by omega)) ?_
      refine lv_aload_n hx hb dX11_laysLines_96 rfl (lv_at hl 1 rfl) ?_
      refine xget F hP 0 rfl rfl inX11 50 (by decide) tb1232 rfl dX11_laysLines_97 ?_
      refine lv_bipush (v := 40) hx hb dX11_laysLines_100 (by decide) ?_
      refine lv_iload_n hx hb dX11_laysLines_102 rfl (lv_at hl 2 rfl) ?_
      refine lv_imul hx hb dX11_laysLines_103 ?_
      refine relit (v := 200) (by decide +kernel) ?_
      refine lv_iload_n hx hb dX11_laysLines_104 rfl (lv_at hl 0 rfl) ?_
      refine lv_iadd hx hb dX11_laysLines_105 ?_
      refine relit (v := (nI (k + 200))) (nadd (a := 200) (b := k) (by omega)) ?_
      refine xilo (v := 0) F hP 5 rfl (k + 200) (nI_pos (by omega)) (nI_clamp (by omega)) (by omega) rfl dX11_laysLines_106 ?_
      refine xist (f' := fun _ => 0) F hP hD hS 5 rfl k (nI_pos (by omega)) (nI_clamp (by omega)) (by omega) (xup0 _) dX11_laysLines_107 (fun H locs hP hD hS => ?_)
      have hP : va_P g vwCl [(h0, .inr (11, [x0, x1, x2, x3, x4, x5, x6, x7, x8, x9, x10, x11, x12, x13, x14, x15, x16, x17, x18, x19, x20, x21, x22, x23, x24, x25, x26, x27, x28, x29, x30, x31, x32, x33, x34, x35, x36, x37, x38, x39, x40, x41, x42, x43, x44, x45, .ref h1, .ref h2, .ref h3, .ref h4, .ref h5, x51, x52, x53, x54, x55, x56, x57, x58, x59, x60, x61, x62, x63, x64, x65, x66, x67, x68, x69, x70, x71, x72, x73])), (h1, .inl (aC 0, 6, .inl (fun _ => 0))), (h2, .inl (aC 0, 240, .inl (fun _ => 0))), (h3, .inl (aC 0, 240, .inl (fun _ => 0))), (h4, .inl (aC 0, 240, .inl (fun _ => 0))), (h5, .inl (aC 0, 240, .inl (fun _ => 0)))] H := hP
      have hD : va_D A [(h0, .inr (11, [x0, x1, x2, x3, x4, x5, x6, x7, x8, x9, x10, x11, x12, x13, x14, x15, x16, x17, x18, x19, x20, x21, x22, x23, x24, x25, x26, x27, x28, x29, x30, x31, x32, x33, x34, x35, x36, x37, x38, x39, x40, x41, x42, x43, x44, x45, .ref h1, .ref h2, .ref h3, .ref h4, .ref h5, x51, x52, x53, x54, x55, x56, x57, x58, x59, x60, x61, x62, x63, x64, x65, x66, x67, x68, x69, x70, x71, x72, x73])), (h1, .inl (aC 0, 6, .inl (fun _ => 0))), (h2, .inl (aC 0, 240, .inl (fun _ => 0))), (h3, .inl (aC 0, 240, .inl (fun _ => 0))), (h4, .inl (aC 0, 240, .inl (fun _ => 0))), (h5, .inl (aC 0, 240, .inl (fun _ => 0)))] := hD
      refine lv_iinc (v := (nI (k + 1))) (lv' := [(3, .int (nI (k + 1))), (0, .ref h0), (1, .int 5), (2, .int 0)]) hx hb dX11_laysLines_108 hl (k := 0) rfl (ninc 1 (by omega)) (by decide) rfl (fun ls hl => ?_)
      refine lv_goto (tgt := 14) hx hb dX11_laysLines_111 (by decide) ?_
      exact ih (k + 1)  _ _ _ (by omega) (hP.sub [0, 1, 2, 3, 4, 5] rfl) (hD.sub [0, 1, 2, 3, 4, 5] (by decide) rfl) hS (lv_sub hl [0, 1, 2, 3] rfl)
  exact hloop14 40 0  _ _ _ (by omega) hP hD hS hl

set_option maxHeartbeats 4000000 in
set_option maxRecDepth 100000 in
theorem k_laysLines_0_1 (l : Launch) (g : va_G) (aC : Nat → ClassId) (aM : Nat → Nat) (h0 h1 h2 h3 h4 h5 : Nat) (x0 x1 x2 x3 x4 x5 x6 x7 x8 x9 x10 x11 x12 x13 x14 x15 x16 x17 x18 x19 x20 x21 x22 x23 x24 x25 x26 x27 x28 x29 x30 x31 x32 x33 x34 x35 x36 x37 x38 x39 x40 x41 x42 x43 x44 x45 x51 x52 x53 x54 x55 x56 x57 x58 x59 x60 x61 x62 x63 x64 x65 x66 x67 x68 x69 x70 x71 x72 x73 : Value) : Ct l g aC aM yX11_laysLines cX11_laysLines 4 none 1 [.ref h0, .int 0, .int 1] [(h0, .inr (11, [x0, x1, x2, x3, x4, x5, x6, x7, x8, x9, x10, x11, x12, x13, x14, x15, x16, x17, x18, x19, x20, x21, x22, x23, x24, x25, x26, x27, x28, x29, x30, x31, x32, x33, x34, x35, x36, x37, x38, x39, x40, x41, x42, x43, x44, x45, .ref h1, .ref h2, .ref h3, .ref h4, .ref h5, x51, x52, x53, x54, x55, x56, x57, x58, x59, x60, x61, x62, x63, x64, x65, x66, x67, x68, x69, x70, x71, x72, x73])), (h1, .inl (aC 0, 6, .inl (fun _ => 0))), (h2, .inl (aC 0, 240, .inl (fun _ => 0))), (h3, .inl (aC 0, 240, .inl (fun _ => 0))), (h4, .inl (aC 0, 240, .inl (fun _ => 0))), (h5, .inl (aC 0, 240, .inl (fun _ => 0)))] (QV g (fun (_ : Unit) => True) (fun (_ : Unit) => [(h0, .inr (11, [x0, x1, x2, x3, x4, x5, x6, x7, x8, x9, x10, x11, x12, x13, x14, x15, x16, x17, x18, x19, x20, x21, x22, x23, x24, x25, x26, x27, x28, x29, x30, x31, x32, x33, x34, x35, x36, x37, x38, x39, x40, x41, x42, x43, x44, x45, .ref h1, .ref h2, .ref h3, .ref h4, .ref h5, x51, x52, x53, x54, x55, x56, x57, x58, x59, x60, x61, x62, x63, x64, x65, x66, x67, x68, x69, x70, x71, x72, x73])), (h1, .inl (aC 0, 6, .inl (fun _ => 0))), (h2, .inl (aC 0, 240, .inl (fun _ => 0))), (h3, .inl (aC 0, 240, .inl (fun _ => 0))), (h4, .inl (aC 0, 240, .inl (fun _ => 0))), (h5, .inl (aC 0, 240, .inl (fun _ => 0)))])) 0 0 := by
  refine Ct.mk (by decide) (Nat.le_of_ble_eq_true rfl) ?_
  intro p e s m below meth c A ls hx hb hml hown hts hr hlk hnm hK hA hM hM2 hP hD hS hl
  have hown : s.vm.findClass RX11 = some m.cls := hown
  have F : Fx p s m _ c cX11_laysLines 4 RX11 g aC aM A := ⟨hx, hb, hml, hown, hts, hK, hA, hM, hM2⟩
  have hl : lv_has ls 4 [(0, .ref h0), (1, .int 0), (2, .int 1)] := hl
  refine lv_aload_n hx hb dX11_laysLines_0 rfl (lv_at hl 0 rfl) ?_
  refine xget F hP 0 rfl rfl inX11 46 (by decide) tb1228 rfl dX11_laysLines_1 ?_
  refine lv_iload_n hx hb dX11_laysLines_4 rfl (lv_at hl 2 rfl) ?_
  refine lv_aload_n hx hb dX11_laysLines_5 rfl (lv_at hl 0 rfl) ?_
  refine xget F hP 0 rfl rfl inX11 46 (by decide) tb1228 rfl dX11_laysLines_6 ?_
  refine lv_iload_n hx hb dX11_laysLines_9 rfl (lv_at hl 1 rfl) ?_
  refine xilo (v := 0) F hP 1 rfl 0 (by decide +kernel) (by decide +kernel) (by decide) (by decide +kernel) dX11_laysLines_10 ?_
  refine xist (f' := fun _ => 0) F hP hD hS 1 rfl 1 (by decide +kernel) (by decide +kernel) (by decide) (xup0 _) dX11_laysLines_11 (fun H locs hP hD hS => ?_)
  have hP : va_P g vwCl [(h0, .inr (11, [x0, x1, x2, x3, x4, x5, x6, x7, x8, x9, x10, x11, x12, x13, x14, x15, x16, x17, x18, x19, x20, x21, x22, x23, x24, x25, x26, x27, x28, x29, x30, x31, x32, x33, x34, x35, x36, x37, x38, x39, x40, x41, x42, x43, x44, x45, .ref h1, .ref h2, .ref h3, .ref h4, .ref h5, x51, x52, x53, x54, x55, x56, x57, x58, x59, x60, x61, x62, x63, x64, x65, x66, x67, x68, x69, x70, x71, x72, x73])), (h1, .inl (aC 0, 6, .inl (fun _ => 0))), (h2, .inl (aC 0, 240, .inl (fun _ => 0))), (h3, .inl (aC 0, 240, .inl (fun _ => 0))), (h4, .inl (aC 0, 240, .inl (fun _ => 0))), (h5, .inl (aC 0, 240, .inl (fun _ => 0)))] H := hP
  have hD : va_D A [(h0, .inr (11, [x0, x1, x2, x3, x4, x5, x6, x7, x8, x9, x10, x11, x12, x13, x14, x15, x16, x17, x18, x19, x20, x21, x22, x23, x24, x25, x26, x27, x28, x29, x30, x31, x32, x33, x34, x35, x36, x37, x38, x39, x40, x41, x42, x43, x44, x45, .ref h1, .ref h2, .ref h3, .ref h4, .ref h5, x51, x52, x53, x54, x55, x56, x57, x58, x59, x60, x61, x62, x63, x64, x65, x66, x67, x68, x69, x70, x71, x72, x73])), (h1, .inl (aC 0, 6, .inl (fun _ => 0))), (h2, .inl (aC 0, 240, .inl (fun _ => 0))), (h3, .inl (aC 0, 240, .inl (fun _ => 0))), (h4, .inl (aC 0, 240, .inl (fun _ => 0))), (h5, .inl (aC 0, 240, .inl (fun _ => 0)))] := hD
  refine lv_iconst (v := 0) hx hb dX11_laysLines_12 (by decide) ?_
  refine lv_istore_n (lv' := [(3, .int 0), (0, .ref h0), (1, .int 0), (2, .int 1)]) hx hb dX11_laysLines_13 rfl hl (by decide) rfl (fun ls hl => ?_)
  refine W.widen (k := 0) (n := 0) (Nat.le_of_ble_eq_true rfl) (Nat.le_of_ble_eq_true rfl) ?_
  have hloop14 : ∀ (n k : Nat) (H : Heap) (locs : List Loc) (ls : Array Slot), k + n = 40 → va_P g vwCl [(h0, .inr (11, [x0, x1, x2, x3, x4, x5, x6, x7, x8, x9, x10, x11, x12, x13, x14, x15, x16, x17, x18, x19, x20, x21, x22, x23, x24, x25, x26, x27, x28, x29, x30, x31, x32, x33, x34, x35, x36, x37, x38, x39, x40, x41, x42, x43, x44, x45, .ref h1, .ref h2, .ref h3, .ref h4, .ref h5, x51, x52, x53, x54, x55, x56, x57, x58, x59, x60, x61, x62, x63, x64, x65, x66, x67, x68, x69, x70, x71, x72, x73])), (h1, .inl (aC 0, 6, .inl (fun _ => 0))), (h2, .inl (aC 0, 240, .inl (fun _ => 0))), (h3, .inl (aC 0, 240, .inl (fun _ => 0))), (h4, .inl (aC 0, 240, .inl (fun _ => 0))), (h5, .inl (aC 0, 240, .inl (fun _ => 0)))] H → va_D A [(h0, .inr (11, [x0, x1, x2, x3, x4, x5, x6, x7, x8, x9, x10, x11, x12, x13, x14, x15, x16, x17, x18, x19, x20, x21, x22, x23, x24, x25, x26, x27, x28, x29, x30, x31, x32, x33, x34, x35, x36, x37, x38, x39, x40, x41, x42, x43, x44, x45, .ref h1, .ref h2, .ref h3, .ref h4, .ref h5, x51, x52, x53, x54, x55, x56, x57, x58, x59, x60, x61, x62, x63, x64, x65, x66, x67, x68, x69, x70, x71, x72, x73])), (h1, .inl (aC 0, 6, .inl (fun _ => 0))), (h2, .inl (aC 0, 240, .inl (fun _ => 0))), (h3, .inl (aC 0, 240, .inl (fun _ => 0))), (h4, .inl (aC 0, 240, .inl (fun _ => 0))), (h5, .inl (aC 0, 240, .inl (fun _ => 0)))] → va_S A s.heap H locs → lv_has ls 4 [(3, .int (nI k)), (0, .ref h0), (1, .int 0), (2, .int 1)] → W p l e (rmL 1 0 0) s m [.ref h0, .int 0, .int 1].toArray below meth c H locs 0 0 (MQ below (QV g (fun (_ : Unit) => True) (fun (_ : Unit) => [(h0, .inr (11, [x0, x1, x2, x3, x4, x5, x6, x7, x8, x9, x10, x11, x12, x13, x14, x15, x16, x17, x18, x19, x20, x21, x22, x23, x24, x25, x26, x27, x28, x29, x30, x31, x32, x33, x34, x35, x36, x37, x38, x39, x40, x41, x42, x43, x44, x45, .ref h1, .ref h2, .ref h3, .ref h4, .ref h5, x51, x52, x53, x54, x55, x56, x57, x58, x59, x60, x61, x62, x63, x64, x65, x66, x67, x68, x69, x70, x71, x72, x73])), (h1, .inl (aC 0, 6, .inl (fun _ => 0))), (h2, .inl (aC 0, 240, .inl (fun _ => 0))), (h3, .inl (aC 0, 240, .inl (fun _ => 0))), (h4, .inl (aC 0, 240, .inl (fun _ => 0))), (h5, .inl (aC 0, 240, .inl (fun _ => 0)))]) A) [.ref h0, .int 0, .int 1].toArray s 0 0 A) (F0 m 14 ls []) := by
    intro n
    induction n with
    | zero =>
      intro k  H locs ls hk  hP hD hS hl
      obtain rfl : k = 40 := by omega
      have hl : lv_has ls 4 [(3, .int 40), (0, .ref h0), (1, .int 0), (2, .int 1)] := hl
      refine lv_iload_n hx hb dX11_laysLines_14 rfl (lv_at hl 0 rfl) ?_
      refine lv_bipush (v := 40) hx hb dX11_laysLines_15 (by decide) ?_
      refine lv_icmp_ge (tgt := 114) hx hb dX11_laysLines_17 (by decide) (fun _ => ?_) (fun c_ => absurd (by decide +kernel) c_)
      have hP9 := hP.sub (ws' := [(h0, .inr (11, [x0, x1, x2, x3, x4, x5, x6, x7, x8, x9, x10, x11, x12, x13, x14, x15, x16, x17, x18, x19, x20, x21, x22, x23, x24, x25, x26, x27, x28, x29, x30, x31, x32, x33, x34, x35, x36, x37, x38, x39, x40, x41, x42, x43, x44, x45, .ref h1, .ref h2, .ref h3, .ref h4, .ref h5, x51, x52, x53, x54, x55, x56, x57, x58, x59, x60, x61, x62, x63, x64, x65, x66, x67, x68, x69, x70, x71, x72, x73])), (h1, .inl (aC 0, 6, .inl (fun _ => 0))), (h2, .inl (aC 0, 240, .inl (fun _ => 0))), (h3, .inl (aC 0, 240, .inl (fun _ => 0))), (h4, .inl (aC 0, 240, .inl (fun _ => 0))), (h5, .inl (aC 0, 240, .inl (fun _ => 0)))]) [0, 1, 2, 3, 4, 5] rfl
      have hD9 := hD.sub (ws' := [(h0, .inr (11, [x0, x1, x2, x3, x4, x5, x6, x7, x8, x9, x10, x11, x12, x13, x14, x15, x16, x17, x18, x19, x20, x21, x22, x23, x24, x25, x26, x27, x28, x29, x30, x31, x32, x33, x34, x35, x36, x37, x38, x39, x40, x41, x42, x43, x44, x45, .ref h1, .ref h2, .ref h3, .ref h4, .ref h5, x51, x52, x53, x54, x55, x56, x57, x58, x59, x60, x61, x62, x63, x64, x65, x66, x67, x68, x69, x70, x71, x72, x73])), (h1, .inl (aC 0, 6, .inl (fun _ => 0))), (h2, .inl (aC 0, 240, .inl (fun _ => 0))), (h3, .inl (aC 0, 240, .inl (fun _ => 0))), (h4, .inl (aC 0, 240, .inl (fun _ => 0))), (h5, .inl (aC 0, 240, .inl (fun _ => 0)))]) [0, 1, 2, 3, 4, 5] (by decide) rfl
      exact rV () hx hb hr hlk hS trivial hP9 hD9 (Nat.le_of_ble_eq_true rfl) (Nat.le_of_ble_eq_true rfl) dX11_laysLines_114
    | succ n ih =>
      intro k  H locs ls hk  hP hD hS hl
      have hk2 : k < 40 := by omega
      refine lv_iload_n hx hb dX11_laysLines_14 rfl (lv_at hl 0 rfl) ?_
      refine lv_bipush (v := 40) hx hb dX11_laysLines_15 (by decide) ?_
      refine lv_icmp_ge (tgt := 114) hx hb dX11_laysLines_17 (by decide) (fun c_ => absurd c_ (show ¬ (nI 40 ≤ nI k) by rw [nI_leI (by omega) (by omega)]; omega)) (fun _ => ?_)
      refine lv_aload_n hx hb dX11_laysLines_20 rfl (lv_at hl 1 rfl) ?_
      refine xget F hP 0 rfl rfl inX11 47 (by decide) tb1229 rfl dX11_laysLines_21 ?_
      refine lv_bipush (v := 40) hx hb dX11_laysLines_24 (by decide) ?_
      refine lv_iload_n hx hb dX11_laysLines_26 rfl (lv_at hl 3 rfl) ?_
      refine lv_imul hx hb dX11_laysLines_27 ?_
      refine relit (v := 40) (by decide +kernel) ?_
      refine lv_iload_n hx hb dX11_laysLines_28 rfl (lv_at hl 0 rfl) ?_
      refine lv_iadd hx hb dX11_laysLines_29 ?_
      refine relit (v := (nI (k + 40))) (nadd (a := 40) (b := k) (by omega)) ?_
      refine lv_aload_n hx hb dX11_laysLines_30 rfl (lv_at hl 1 rfl) ?_
      refine xget F hP 0 rfl rfl inX11 47 (by decide) tb1229 rfl dX11_laysLines_31 ?_
      refine lv_bipush (v := 40) hx hb dX11_laysLines_34 (by decide) ?_
      refine lv_iload_n hx hb dX11_laysLines_36 rfl (lv_at hl 2 rfl) ?_
      refine lv_imul hx hb dX11_laysLines_37 ?_
      refine relit (v := 0) (by decide +kernel) ?_
      refine lv_iload_n hx hb dX11_laysLines_38 rfl (lv_at hl 0 rfl) ?_
      refine lv_iadd hx hb dX11_laysLines_39 ?_
      refine relit (v := (nI k)) (nadd (a := 0) (b := k) (by omega)) ?_
      refine xilo (v := 0) F hP 2 rfl k (nI_pos (by omega)) (nI_clamp (by omega)) (by omega) rfl dX11_laysLines_40 ?_
      refine xist (f' := fun _ => 0) F hP hD hS 2 rfl (k + 40) (nI_pos (by omega)) (nI_clamp (by omega)) (by omega) (xup0 _) dX11_laysLines_41 (fun H locs hP hD hS => ?_)
      have hP : va_P g vwCl [(h0, .inr (11, [x0, x1, x2, x3, x4, x5, x6, x7, x8, x9, x10, x11, x12, x13, x14, x15, x16, x17, x18, x19, x20, x21, x22, x23, x24, x25, x26, x27, x28, x29, x30, x31, x32, x33, x34, x35, x36, x37, x38, x39, x40, x41, x42, x43, x44, x45, .ref h1, .ref h2, .ref h3, .ref h4, .ref h5, x51, x52, x53, x54, x55, x56, x57, x58, x59, x60, x61, x62, x63, x64, x65, x66, x67, x68, x69, x70, x71, x72, x73])), (h1, .inl (aC 0, 6, .inl (fun _ => 0))), (h2, .inl (aC 0, 240, .inl (fun _ => 0))), (h3, .inl (aC 0, 240, .inl (fun _ => 0))), (h4, .inl (aC 0, 240, .inl (fun _ => 0))), (h5, .inl (aC 0, 240, .inl (fun _ => 0)))] H := hP
      have hD : va_D A [(h0, .inr (11, [x0, x1, x2, x3, x4, x5, x6, x7, x8, x9, x10, x11, x12, x13, x14, x15, x16, x17, x18, x19, x20, x21, x22, x23, x24, x25, x26, x27, x28, x29, x30, x31, x32, x33, x34, x35, x36, x37, x38, x39, x40, x41, x42, x43, x44, x45, .ref h1, .ref h2, .ref h3, .ref h4, .ref h5, x51, x52, x53, x54, x55, x56, x57, x58, x59, x60, x61, x62, x63, x64, x65, x66, x67, x68, x69, x70, x71, x72, x73])), (h1, .inl (aC 0, 6, .inl (fun _ => 0))), (h2, .inl (aC 0, 240, .inl (fun _ => 0))), (h3, .inl (aC 0, 240, .inl (fun _ => 0))), (h4, .inl (aC 0, 240, .inl (fun _ => 0))), (h5, .inl (aC 0, 240, .inl (fun _ => 0)))] := hD
      refine lv_aload_n hx hb dX11_laysLines_42 rfl (lv_at hl 1 rfl) ?_
      refine xget F hP 0 rfl rfl inX11 48 (by decide) tb1230 rfl dX11_laysLines_43 ?_
      refine lv_bipush (v := 40) hx hb dX11_laysLines_46 (by decide) ?_
      refine lv_iload_n hx hb dX11_laysLines_48 rfl (lv_at hl 3 rfl) ?_
      refine lv_imul hx hb dX11_laysLines_49 ?_
      refine relit (v := 40) (by decide +kernel) ?_
      refine lv_iload_n hx hb dX11_laysLines_50 rfl (lv_at hl 0 rfl) ?_
      refine lv_iadd hx hb dX11_laysLines_51 ?_
      refine relit (v := (nI (k + 40))) (nadd (a := 40) (b := k) (by omega)) ?_
      refine lv_aload_n hx hb dX11_laysLines_52 rfl (lv_at hl 1 rfl) ?_
      refine xget F hP 0 rfl rfl inX11 48 (by decide) tb1230 rfl dX11_laysLines_53 ?_
      refine lv_bipush (v := 40) hx hb dX11_laysLines_56 (by decide) ?_
      refine lv_iload_n hx hb dX11_laysLines_58 rfl (lv_at hl 2 rfl) ?_
      refine lv_imul hx hb dX11_laysLines_59 ?_
      refine relit (v := 0) (by decide +kernel) ?_
      refine lv_iload_n hx hb dX11_laysLines_60 rfl (lv_at hl 0 rfl) ?_
      refine lv_iadd hx hb dX11_laysLines_61 ?_
      refine relit (v := (nI k)) (nadd (a := 0) (b := k) (by omega)) ?_
      refine xilo (v := 0) F hP 3 rfl k (nI_pos (by omega)) (nI_clamp (by omega)) (by omega) rfl dX11_laysLines_62 ?_
      refine xist (f' := fun _ => 0) F hP hD hS 3 rfl (k + 40) (nI_pos (by omega)) (nI_clamp (by omega)) (by omega) (xup0 _) dX11_laysLines_63 (fun H locs hP hD hS => ?_)
      have hP : va_P g vwCl [(h0, .inr (11, [x0, x1, x2, x3, x4, x5, x6, x7, x8, x9, x10, x11, x12, x13, x14, x15, x16, x17, x18, x19, x20, x21, x22, x23, x24, x25, x26, x27, x28, x29, x30, x31, x32, x33, x34, x35, x36, x37, x38, x39, x40, x41, x42, x43, x44, x45, .ref h1, .ref h2, .ref h3, .ref h4, .ref h5, x51, x52, x53, x54, x55, x56, x57, x58, x59, x60, x61, x62, x63, x64, x65, x66, x67, x68, x69, x70, x71, x72, x73])), (h1, .inl (aC 0, 6, .inl (fun _ => 0))), (h2, .inl (aC 0, 240, .inl (fun _ => 0))), (h3, .inl (aC 0, 240, .inl (fun _ => 0))), (h4, .inl (aC 0, 240, .inl (fun _ => 0))), (h5, .inl (aC 0, 240, .inl (fun _ => 0)))] H := hP
      have hD : va_D A [(h0, .inr (11, [x0, x1, x2, x3, x4, x5, x6, x7, x8, x9, x10, x11, x12, x13, x14, x15, x16, x17, x18, x19, x20, x21, x22, x23, x24, x25, x26, x27, x28, x29, x30, x31, x32, x33, x34, x35, x36, x37, x38, x39, x40, x41, x42, x43, x44, x45, .ref h1, .ref h2, .ref h3, .ref h4, .ref h5, x51, x52, x53, x54, x55, x56, x57, x58, x59, x60, x61, x62, x63, x64, x65, x66, x67, x68, x69, x70, x71, x72, x73])), (h1, .inl (aC 0, 6, .inl (fun _ => 0))), (h2, .inl (aC 0, 240, .inl (fun _ => 0))), (h3, .inl (aC 0, 240, .inl (fun _ => 0))), (h4, .inl (aC 0, 240, .inl (fun _ => 0))), (h5, .inl (aC 0, 240, .inl (fun _ => 0)))] := hD
      refine lv_aload_n hx hb dX11_laysLines_64 rfl (lv_at hl 1 rfl) ?_
      refine xget F hP 0 rfl rfl inX11 49 (by decide) tb1231 rfl dX11_laysLines_65 ?_
      refine lv_bipush (v := 40) hx hb dX11_laysLines_68 (by decide) ?_
      refine lv_iload_n hx hb dX11_laysLines_70 rfl (lv_at hl 3 rfl) ?_
      refine lv_imul hx hb dX11_laysLines_71 ?_
      refine relit (v := 40) (by decide +kernel) ?_
      refine lv_iload_n hx hb dX11_laysLines_72 rfl (lv_at hl 0 rfl) ?_
      refine lv_iadd hx hb dX11_laysLines_73 ?_
      refine relit (v := (nI (k + 40))) (nadd (a := 40) (b := k) (by omega)) ?_
      refine lv_aload_n hx hb dX11_laysLines_74 rfl (lv_at hl 1 rfl) ?_
      refine xget F hP 0 rfl rfl inX11 49 (by decide) tb1231 rfl dX11_laysLines_75 ?_
      refine lv_bipush (v := 40) hx hb dX11_laysLines_78 (by decide) ?_
      refine lv_iload_n hx hb dX11_laysLines_80 rfl (lv_at hl 2 rfl) ?_
      refine lv_imul hx hb dX11_laysLines_81 ?_
      refine relit (v := 0) (by decide +kernel) ?_
      refine lv_iload_n hx hb dX11_laysLines_82 rfl (lv_at hl 0 rfl) ?_
      refine lv_iadd hx hb dX11_laysLines_83 ?_
      refine relit (v := (nI k)) (nadd (a := 0) (b := k) (by omega)) ?_
      refine xilo (v := 0) F hP 4 rfl k (nI_pos (by omega)) (nI_clamp (by omega)) (by omega) rfl dX11_laysLines_84 ?_
      refine xist (f' := fun _ => 0) F hP hD hS 4 rfl (k + 40) (nI_pos (by omega)) (nI_clamp (by omega)) (by omega) (xup0 _) dX11_laysLines_85 (fun H locs hP hD hS => ?_)
      have hP : va_P g vwCl [(h0, .inr (11, [x0, x1, x2, x3, x4, x5, x6, x7, x8, x9, x10, x11, x12, x13, x14, x15, x16, x17, x18, x19, x20, x21, x22, x23, x24, x25, x26, x27, x28, x29, x30, x31, x32, x33, x34, x35, x36, x37, x38, x39, x40, x41, x42, x43, x44, x45, .ref h1, .ref h2, .ref h3, .ref h4, .ref h5, x51, x52, x53, x54, x55, x56, x57, x58, x59, x60, x61, x62, x63, x64, x65, x66, x67, x68, x69, x70, x71, x72, x73])), (h1, .inl (aC 0, 6, .inl (fun _ => 0))), (h2, .inl (aC 0, 240, .inl (fun _ => 0))), (h3, .inl (aC 0, 240, .inl (fun _ => 0))), (h4, .inl (aC 0, 240, .inl (fun _ => 0))), (h5, .inl (aC 0, 240, .inl (fun _ => 0)))] H := hP
      have hD : va_D A [(h0, .inr (11, [x0, x1, x2, x3, x4, x5, x6, x7, x8, x9, x10, x11, x12, x13, x14, x15, x16, x17, x18, x19, x20, x21, x22, x23, x24, x25, x26, x27, x28, x29, x30, x31, x32, x33, x34, x35, x36, x37, x38, x39, x40, x41, x42, x43, x44, x45, .ref h1, .ref h2, .ref h3, .ref h4, .ref h5, x51, x52, x53, x54, x55, x56, x57, x58, x59, x60, x61, x62, x63, x64, x65, x66, x67, x68, x69, x70, x71, x72, x73])), (h1, .inl (aC 0, 6, .inl (fun _ => 0))), (h2, .inl (aC 0, 240, .inl (fun _ => 0))), (h3, .inl (aC 0, 240, .inl (fun _ => 0))), (h4, .inl (aC 0, 240, .inl (fun _ => 0))), (h5, .inl (aC 0, 240, .inl (fun _ => 0)))] := hD
      refine lv_aload_n hx hb dX11_laysLines_86 rfl (lv_at hl 1 rfl) ?_
      refine xget F hP 0 rfl rfl inX11 50 (by decide) tb1232 rfl dX11_laysLines_87 ?_
      refine lv_bipush (v := 40) hx hb dX11_laysLines_90 (by decide) ?_
      refine lv_iload_n hx hb dX11_laysLines_92 rfl (lv_at hl 3 rfl) ?_
      refine lv_imul hx hb dX11_laysLines_93 ?_
      refine relit (v := 40) (by decide +kernel) ?_
      refine lv_iload_n hx hb dX11_laysLines_94 rfl (lv_at hl 0 rfl) ?_
      refine lv_iadd hx hb dX11_laysLines_95 ?_
      refine relit (v := (nI (k + 40))) (nadd (a := 40) (b := k) (by omega)) ?_
      refine lv_aload_n hx hb dX11_laysLines_96 rfl (lv_at hl 1 rfl) ?_
      refine xget F hP 0 rfl rfl inX11 50 (by decide) tb1232 rfl dX11_laysLines_97 ?_
      refine lv_bipush (v := 40) hx hb dX11_laysLines_100 (by decide) ?_
      refine lv_iload_n hx hb dX11_laysLines_102 rfl (lv_at hl 2 rfl) ?_
      refine lv_imul hx hb dX11_laysLines_103 ?_
      refine relit (v := 0) (by decide +kernel) ?_
      refine lv_iload_n hx hb dX11_laysLines_104 rfl (lv_at hl 0 rfl) ?_
      refine lv_iadd hx hb dX11_laysLines_105 ?_
      refine relit (v := (nI k)) (nadd (a := 0) (b := k) (by omega)) ?_
      refine xilo (v := 0) F hP 5 rfl k (nI_pos (by omega)) (nI_clamp (by omega)) (by omega) rfl dX11_laysLines_106 ?_
      refine xist (f' := fun _ => 0) F hP hD hS 5 rfl (k + 40) (nI_pos (by omega)) (nI_clamp (by omega)) (by omega) (xup0 _) dX11_laysLines_107 (fun H locs hP hD hS => ?_)
      have hP : va_P g vwCl [(h0, .inr (11, [x0, x1, x2, x3, x4, x5, x6, x7, x8, x9, x10, x11, x12, x13, x14, x15, x16, x17, x18, x19, x20, x21, x22, x23, x24, x25, x26, x27, x28, x29, x30, x31, x32, x33, x34, x35, x36, x37, x38, x39, x40, x41, x42, x43, x44, x45, .ref h1, .ref h2, .ref h3, .ref h4, .ref h5, x51, x52, x53, x54, x55, x56, x57, x58, x59, x60, x61, x62, x63, x64, x65, x66, x67, x68, x69, x70, x71, x72, x73])), (h1, .inl (aC 0, 6, .inl (fun _ => 0))), (h2, .inl (aC 0, 240, .inl (fun _ => 0))), (h3, .inl (aC 0, 240, .inl (fun _ => 0))), (h4, .inl (aC 0, 240, .inl (fun _ => 0))), (h5, .inl (aC 0, 240, .inl (fun _ => 0)))] H := hP
      have hD : va_D A [(h0, .inr (11, [x0, x1, x2, x3, x4, x5, x6, x7, x8, x9, x10, x11, x12, x13, x14, x15, x16, x17, x18, x19, x20, x21, x22, x23, x24, x25, x26, x27, x28, x29, x30, x31, x32, x33, x34, x35, x36, x37, x38, x39, x40, x41, x42, x43, x44, x45, .ref h1, .ref h2, .ref h3, .ref h4, .ref h5, x51, x52, x53, x54, x55, x56, x57, x58, x59, x60, x61, x62, x63, x64, x65, x66, x67, x68, x69, x70, x71, x72, x73])), (h1, .inl (aC 0, 6, .inl (fun _ => 0))), (h2, .inl (aC 0, 240, .inl (fun _ => 0))), (h3, .inl (aC 0, 240, .inl (fun _ => 0))), (h4, .inl (aC 0, 240, .inl (fun _ => 0))), (h5, .inl (aC 0, 240, .inl (fun _ => 0)))] := hD
      refine lv_iinc (v := (nI (k + 1))) (lv' := [(3, .int (nI (k + 1))), (0, .ref h0), (1, .int 0), (2, .int 1)]) hx hb dX11_laysLines_108 hl (k := 0) rfl (ninc 1 (by omega)) (by decide) rfl (fun ls hl => ?_)
      refine lv_goto (tgt := 14) hx hb dX11_laysLines_111 (by decide) ?_
      exact ih (k + 1)  _ _ _ (by omega) (hP.sub [0, 1, 2, 3, 4, 5] rfl) (hD.sub [0, 1, 2, 3, 4, 5] (by decide) rfl) hS (lv_sub hl [0, 1, 2, 3] rfl)
  exact hloop14 40 0  _ _ _ (by omega) hP hD hS hl

theorem dX11_laysSeen_0 : decode cX11_laysSeen 0 = .ok (.aload_n 0, 1) := by decide +kernel
theorem dX11_laysSeen_1 : decode cX11_laysSeen 1 = .ok (.getfield 129, 3) := by decide +kernel
theorem dX11_laysSeen_4 : decode cX11_laysSeen 4 = .ok (.iload_n 2, 1) := by decide +kernel
theorem dX11_laysSeen_5 : decode cX11_laysSeen 5 = .ok (.aload_n 0, 1) := by decide +kernel
theorem dX11_laysSeen_6 : decode cX11_laysSeen 6 = .ok (.getfield 129, 3) := by decide +kernel
theorem dX11_laysSeen_9 : decode cX11_laysSeen 9 = .ok (.iload_n 1, 1) := by decide +kernel
theorem dX11_laysSeen_10 : decode cX11_laysSeen 10 = .ok (.iaload, 1) := by decide +kernel
theorem dX11_laysSeen_11 : decode cX11_laysSeen 11 = .ok (.iastore, 1) := by decide +kernel
theorem dX11_laysSeen_12 : decode cX11_laysSeen 12 = .ok (.iconst 0, 1) := by decide +kernel
theorem dX11_laysSeen_13 : decode cX11_laysSeen 13 = .ok (.istore_n 3, 1) := by decide +kernel
theorem dX11_laysSeen_14 : decode cX11_laysSeen 14 = .ok (.iload_n 3, 1) := by decide +kernel
theorem dX11_laysSeen_15 : decode cX11_laysSeen 15 = .ok (.bipush 8, 2) := by decide +kernel
theorem dX11_laysSeen_17 : decode cX11_laysSeen 17 = .ok (.if_icmp .ge 75, 3) := by decide +kernel
theorem dX11_laysSeen_20 : decode cX11_laysSeen 20 = .ok (.aload_n 0, 1) := by decide +kernel
theorem dX11_laysSeen_21 : decode cX11_laysSeen 21 = .ok (.getfield 132, 3) := by decide +kernel
theorem dX11_laysSeen_24 : decode cX11_laysSeen 24 = .ok (.bipush 8, 2) := by decide +kernel
theorem dX11_laysSeen_26 : decode cX11_laysSeen 26 = .ok (.iload_n 2, 1) := by decide +kernel
theorem dX11_laysSeen_27 : decode cX11_laysSeen 27 = .ok (.imul, 1) := by decide +kernel
theorem dX11_laysSeen_28 : decode cX11_laysSeen 28 = .ok (.iload_n 3, 1) := by decide +kernel
theorem dX11_laysSeen_29 : decode cX11_laysSeen 29 = .ok (.iadd, 1) := by decide +kernel
theorem dX11_laysSeen_30 : decode cX11_laysSeen 30 = .ok (.aload_n 0, 1) := by decide +kernel
theorem dX11_laysSeen_31 : decode cX11_laysSeen 31 = .ok (.getfield 132, 3) := by decide +kernel
theorem dX11_laysSeen_34 : decode cX11_laysSeen 34 = .ok (.bipush 8, 2) := by decide +kernel
theorem dX11_laysSeen_36 : decode cX11_laysSeen 36 = .ok (.iload_n 1, 1) := by decide +kernel
theorem dX11_laysSeen_37 : decode cX11_laysSeen 37 = .ok (.imul, 1) := by decide +kernel
theorem dX11_laysSeen_38 : decode cX11_laysSeen 38 = .ok (.iload_n 3, 1) := by decide +kernel
theorem dX11_laysSeen_39 : decode cX11_laysSeen 39 = .ok (.iadd, 1) := by decide +kernel
theorem dX11_laysSeen_40 : decode cX11_laysSeen 40 = .ok (.iaload, 1) := by decide +kernel
theorem dX11_laysSeen_41 : decode cX11_laysSeen 41 = .ok (.iastore, 1) := by decide +kernel
theorem dX11_laysSeen_42 : decode cX11_laysSeen 42 = .ok (.aload_n 0, 1) := by decide +kernel
theorem dX11_laysSeen_43 : decode cX11_laysSeen 43 = .ok (.getfield 135, 3) := by decide +kernel
theorem dX11_laysSeen_46 : decode cX11_laysSeen 46 = .ok (.bipush 8, 2) := by decide +kernel
theorem dX11_laysSeen_48 : decode cX11_laysSeen 48 = .ok (.iload_n 2, 1) := by decide +kernel
theorem dX11_laysSeen_49 : decode cX11_laysSeen 49 = .ok (.imul, 1) := by decide +kernel
theorem dX11_laysSeen_50 : decode cX11_laysSeen 50 = .ok (.iload_n 3, 1) := by decide +kernel
theorem dX11_laysSeen_51 : decode cX11_laysSeen 51 = .ok (.iadd, 1) := by decide +kernel
theorem dX11_laysSeen_52 : decode cX11_laysSeen 52 = .ok (.aload_n 0, 1) := by decide +kernel
theorem dX11_laysSeen_53 : decode cX11_laysSeen 53 = .ok (.getfield 135, 3) := by decide +kernel
theorem dX11_laysSeen_56 : decode cX11_laysSeen 56 = .ok (.bipush 8, 2) := by decide +kernel
theorem dX11_laysSeen_58 : decode cX11_laysSeen 58 = .ok (.iload_n 1, 1) := by decide +kernel
theorem dX11_laysSeen_59 : decode cX11_laysSeen 59 = .ok (.imul, 1) := by decide +kernel
theorem dX11_laysSeen_60 : decode cX11_laysSeen 60 = .ok (.iload_n 3, 1) := by decide +kernel
theorem dX11_laysSeen_61 : decode cX11_laysSeen 61 = .ok (.iadd, 1) := by decide +kernel
theorem dX11_laysSeen_62 : decode cX11_laysSeen 62 = .ok (.iaload, 1) := by decide +kernel
theorem dX11_laysSeen_63 : decode cX11_laysSeen 63 = .ok (.iastore, 1) := by decide +kernel
theorem dX11_laysSeen_64 : decode cX11_laysSeen 64 = .ok (.aload_n 0, 1) := by decide +kernel
theorem dX11_laysSeen_65 : decode cX11_laysSeen 65 = .ok (.getfield 138, 3) := by decide +kernel
theorem dX11_laysSeen_68 : decode cX11_laysSeen 68 = .ok (.bipush 8, 2) := by decide +kernel
theorem dX11_laysSeen_70 : decode cX11_laysSeen 70 = .ok (.iload_n 2, 1) := by decide +kernel
theorem dX11_laysSeen_71 : decode cX11_laysSeen 71 = .ok (.imul, 1) := by decide +kernel
theorem dX11_laysSeen_72 : decode cX11_laysSeen 72 = .ok (.iload_n 3, 1) := by decide +kernel
theorem dX11_laysSeen_73 : decode cX11_laysSeen 73 = .ok (.iadd, 1) := by decide +kernel
theorem dX11_laysSeen_74 : decode cX11_laysSeen 74 = .ok (.aload_n 0, 1) := by decide +kernel
theorem dX11_laysSeen_75 : decode cX11_laysSeen 75 = .ok (.getfield 138, 3) := by decide +kernel
theorem dX11_laysSeen_78 : decode cX11_laysSeen 78 = .ok (.bipush 8, 2) := by decide +kernel
theorem dX11_laysSeen_80 : decode cX11_laysSeen 80 = .ok (.iload_n 1, 1) := by decide +kernel
theorem dX11_laysSeen_81 : decode cX11_laysSeen 81 = .ok (.imul, 1) := by decide +kernel
theorem dX11_laysSeen_82 : decode cX11_laysSeen 82 = .ok (.iload_n 3, 1) := by decide +kernel
theorem dX11_laysSeen_83 : decode cX11_laysSeen 83 = .ok (.iadd, 1) := by decide +kernel
theorem dX11_laysSeen_84 : decode cX11_laysSeen 84 = .ok (.baload, 1) := by decide +kernel
theorem dX11_laysSeen_85 : decode cX11_laysSeen 85 = .ok (.bastore, 1) := by decide +kernel
theorem dX11_laysSeen_86 : decode cX11_laysSeen 86 = .ok (.iinc 3 1, 3) := by decide +kernel
theorem dX11_laysSeen_89 : decode cX11_laysSeen 89 = .ok (.goto (-75), 3) := by decide +kernel
theorem dX11_laysSeen_92 : decode cX11_laysSeen 92 = .ok (.return_, 1) := by decide +kernel
set_option maxHeartbeats 4000000 in
set_option maxRecDepth 100000 in
theorem k_laysSeen_0_1 (l : Launch) (g : va_G) (aC : Nat → ClassId) (aM : Nat → Nat) (h0 h1 h2 h3 h4 : Nat) (x0 x1 x2 x3 x4 x5 x6 x7 x8 x9 x10 x11 x12 x13 x14 x15 x16 x17 x18 x19 x20 x21 x22 x23 x24 x25 x26 x27 x28 x29 x30 x31 x32 x33 x34 x35 x36 x37 x38 x39 x40 x41 x42 x43 x44 x45 x46 x47 x48 x49 x50 x55 x56 x57 x58 x59 x60 x61 x62 x63 x64 x65 x66 x67 x68 x69 x70 x71 x72 x73 : Value) : Ct l g aC aM yX11_laysSeen cX11_laysSeen 4 none 1 [.ref h0, .int 0, .int 1] [(h0, .inr (11, [x0, x1, x2, x3, x4, x5, x6, x7, x8, x9, x10, x11, x12, x13, x14, x15, x16, x17, x18, x19, x20, x21, x22, x23, x24, x25, x26, x27, x28, x29, x30, x31, x32, x33, x34, x35, x36, x37, x38, x39, x40, x41, x42, x43, x44, x45, x46, x47, x48, x49, x50, .ref h1, .ref h2, .ref h3, .ref h4, x55, x56, x57, x58, x59, x60, x61, x62, x63, x64, x65, x66, x67, x68, x69, x70, x71, x72, x73])), (h1, .inl (aC 0, 5, .inl (fun _ => 0))), (h2, .inl (aC 0, 40, .inl (fun _ => 0))), (h3, .inl (aC 0, 40, .inl (fun _ => 0))), (h4, .inl (aC 3, 40, .inl (fun _ => 0)))] (QV g (fun (_ : Unit) => True) (fun (_ : Unit) => [(h0, .inr (11, [x0, x1, x2, x3, x4, x5, x6, x7, x8, x9, x10, x11, x12, x13, x14, x15, x16, x17, x18, x19, x20, x21, x22, x23, x24, x25, x26, x27, x28, x29, x30, x31, x32, x33, x34, x35, x36, x37, x38, x39, x40, x41, x42, x43, x44, x45, x46, x47, x48, x49, x50, .ref h1, .ref h2, .ref h3, .ref h4, x55, x56, x57, x58, x59, x60, x61, x62, x63, x64, x65, x66, x67, x68, x69, x70, x71, x72, x73])), (h1, .inl (aC 0, 5, .inl (fun _ => 0))), (h2, .inl (aC 0, 40, .inl (fun _ => 0))), (h3, .inl (aC 0, 40, .inl (fun _ => 0))), (h4, .inl (aC 3, 40, .inl (fun _ => 0)))])) 0 0 := by
  refine Ct.mk (by decide) (Nat.le_of_ble_eq_true rfl) ?_
  intro p e s m below meth c A ls hx hb hml hown hts hr hlk hnm hK hA hM hM2 hP hD hS hl
  have hown : s.vm.findClass RX11 = some m.cls := hown
  have F : Fx p s m _ c cX11_laysSeen 4 RX11 g aC aM A := ⟨hx, hb, hml, hown, hts, hK, hA, hM, hM2⟩
  have hl : lv_has ls 4 [(0, .ref h0), (1, .int 0), (2, .int 1)] := hl
  refine lv_aload_n hx hb dX11_laysSeen_0 rfl (lv_at hl 0 rfl) ?_
  refine xget F hP 0 rfl rfl inX11 51 (by decide) tb1233 rfl dX11_laysSeen_1 ?_
  refine lv_iload_n hx hb dX11_laysSeen_4 rfl (lv_at hl 2 rfl) ?_
  refine lv_aload_n hx hb dX11_laysSeen_5 rfl (lv_at hl 0 rfl) ?_
  refine xget F hP 0 rfl rfl inX11 51 (by decide) tb1233 rfl dX11_laysSeen_6 ?_
  refine lv_iload_n hx hb dX11_laysSeen_9 rfl (lv_at hl 1 rfl) ?_
  refine xilo (v := 0) F hP 1 rfl 0 (by decide +kernel) (by decide +kernel) (by decide) (by decide +kernel) dX11_laysSeen_10 ?_
  refine xist (f' := fun _ => 0) F hP hD hS 1 rfl 1 (by decide +kernel) (by decide +kernel) (by decide) (xup0 _) dX11_laysSeen_11 (fun H locs hP hD hS => ?_)
  have hP : va_P g vwCl [(h0, .inr (11, [x0, x1, x2, x3, x4, x5, x6, x7, x8, x9, x10, x11, x12, x13, x14, x15, x16, x17, x18, x19, x20, x21, x22, x23, x24, x25, x26, x27, x28, x29, x30, x31, x32, x33, x34, x35, x36, x37, x38, x39, x40, x41, x42, x43, x44, x45, x46, x47, x48, x49, x50, .ref h1, .ref h2, .ref h3, .ref h4, x55, x56, x57, x58, x59, x60, x61, x62, x63, x64, x65, x66, x67, x68, x69, x70, x71, x72, x73])), (h1, .inl (aC 0, 5, .inl (fun _ => 0))), (h2, .inl (aC 0, 40, .inl (fun _ => 0))), (h3, .inl (aC 0, 40, .inl (fun _ => 0))), (h4, .inl (aC 3, 40, .inl (fun _ => 0)))] H := hP
  have hD : va_D A [(h0, .inr (11, [x0, x1, x2, x3, x4, x5, x6, x7, x8, x9, x10, x11, x12, x13, x14, x15, x16, x17, x18, x19, x20, x21, x22, x23, x24, x25, x26, x27, x28, x29, x30, x31, x32, x33, x34, x35, x36, x37, x38, x39, x40, x41, x42, x43, x44, x45, x46, x47, x48, x49, x50, .ref h1, .ref h2, .ref h3, .ref h4, x55, x56, x57, x58, x59, x60, x61, x62, x63, x64, x65, x66, x67, x68, x69, x70, x71, x72, x73])), (h1, .inl (aC 0, 5, .inl (fun _ => 0))), (h2, .inl (aC 0, 40, .inl (fun _ => 0))), (h3, .inl (aC 0, 40, .inl (fun _ => 0))), (h4, .inl (aC 3, 40, .inl (fun _ => 0)))] := hD
  refine lv_iconst (v := 0) hx hb dX11_laysSeen_12 (by decide) ?_
  refine lv_istore_n (lv' := [(3, .int 0), (0, .ref h0), (1, .int 0), (2, .int 1)]) hx hb dX11_laysSeen_13 rfl hl (by decide) rfl (fun ls hl => ?_)
  refine W.widen (k := 0) (n := 0) (Nat.le_of_ble_eq_true rfl) (Nat.le_of_ble_eq_true rfl) ?_
  have hloop14 : ∀ (n k : Nat) (H : Heap) (locs : List Loc) (ls : Array Slot), k + n = 8 → va_P g vwCl [(h0, .inr (11, [x0, x1, x2, x3, x4, x5, x6, x7, x8, x9, x10, x11, x12, x13, x14, x15, x16, x17, x18, x19, x20, x21, x22, x23, x24, x25, x26, x27, x28, x29, x30, x31, x32, x33, x34, x35, x36, x37, x38, x39, x40, x41, x42, x43, x44, x45, x46, x47, x48, x49, x50, .ref h1, .ref h2, .ref h3, .ref h4, x55, x56, x57, x58, x59, x60, x61, x62, x63, x64, x65, x66, x67, x68, x69, x70, x71, x72, x73])), (h1, .inl (aC 0, 5, .inl (fun _ => 0))), (h2, .inl (aC 0, 40, .inl (fun _ => 0))), (h3, .inl (aC 0, 40, .inl (fun _ => 0))), (h4, .inl (aC 3, 40, .inl (fun _ => 0)))] H → va_D A [(h0, .inr (11, [x0, x1, x2, x3, x4, x5, x6, x7, x8, x9, x10, x11, x12, x13, x14, x15, x16, x17, x18, x19, x20, x21, x22, x23, x24, x25, x26, x27, x28, x29, x30, x31, x32, x33, x34, x35, x36, x37, x38, x39, x40, x41, x42, x43, x44, x45, x46, x47, x48, x49, x50, .ref h1, .ref h2, .ref h3, .ref h4, x55, x56, x57, x58, x59, x60, x61, x62, x63, x64, x65, x66, x67, x68, x69, x70, x71, x72, x73])), (h1, .inl (aC 0, 5, .inl (fun _ => 0))), (h2, .inl (aC 0, 40, .inl (fun _ => 0))), (h3, .inl (aC 0, 40, .inl (fun _ => 0))), (h4, .inl (aC 3, 40, .inl (fun _ => 0)))] → va_S A s.heap H locs → lv_has ls 4 [(3, .int (nI k)), (0, .ref h0), (1, .int 0), (2, .int 1)] → W p l e (rmL 1 0 0) s m [.ref h0, .int 0, .int 1].toArray below meth c H locs 0 0 (MQ below (QV g (fun (_ : Unit) => True) (fun (_ : Unit) => [(h0, .inr (11, [x0, x1, x2, x3, x4, x5, x6, x7, x8, x9, x10, x11, x12, x13, x14, x15, x16, x17, x18, x19, x20, x21, x22, x23, x24, x25, x26, x27, x28, x29, x30, x31, x32, x33, x34, x35, x36, x37, x38, x39, x40, x41, x42, x43, x44, x45, x46, x47, x48, x49, x50, .ref h1, .ref h2, .ref h3, .ref h4, x55, x56, x57, x58, x59, x60, x61, x62, x63, x64, x65, x66, x67, x68, x69, x70, x71, x72, x73])), (h1, .inl (aC 0, 5, .inl (fun _ => 0))), (h2, .inl (aC 0, 40, .inl (fun _ => 0))), (h3, .inl (aC 0, 40, .inl (fun _ => 0))), (h4, .inl (aC 3, 40, .inl (fun _ => 0)))]) A) [.ref h0, .int 0, .int 1].toArray s 0 0 A) (F0 m 14 ls []) := by
    intro n
    induction n with
    | zero =>
      intro k  H locs ls hk  hP hD hS hl
      obtain rfl : k = 8 := by omega
      have hl : lv_has ls 4 [(3, .int 8), (0, .ref h0), (1, .int 0), (2, .int 1)] := hl
      refine lv_iload_n hx hb dX11_laysSeen_14 rfl (lv_at hl 0 rfl) ?_
      refine lv_bipush (v := 8) hx hb dX11_laysSeen_15 (by decide) ?_
      refine lv_icmp_ge (tgt := 92) hx hb dX11_laysSeen_17 (by decide) (fun _ => ?_) (fun c_ => absurd (by decide +kernel) c_)
      have hP9 := hP.sub (ws' := [(h0, .inr (11, [x0, x1, x2, x3, x4, x5, x6, x7, x8, x9, x10, x11, x12, x13, x14, x15, x16, x17, x18, x19, x20, x21, x22, x23, x24, x25, x26, x27, x28, x29, x30, x31, x32, x33, x34, x35, x36, x37, x38, x39, x40, x41, x42, x43, x44, x45, x46, x47, x48, x49, x50, .ref h1, .ref h2, .ref h3, .ref h4, x55, x56, x57, x58, x59, x60, x61, x62, x63, x64, x65, x66, x67, x68, x69, x70, x71, x72, x73])), (h1, .inl (aC 0, 5, .inl (fun _ => 0))), (h2, .inl (aC 0, 40, .inl (fun _ => 0))), (h3, .inl (aC 0, 40, .inl (fun _ => 0))), (h4, .inl (aC 3, 40, .inl (fun _ => 0)))]) [0, 1, 2, 3, 4] rfl
      have hD9 := hD.sub (ws' := [(h0, .inr (11, [x0, x1, x2, x3, x4, x5, x6, x7, x8, x9, x10, x11, x12, x13, x14, x15, x16, x17, x18, x19, x20, x21, x22, x23, x24, x25, x26, x27, x28, x29, x30, x31, x32, x33, x34, x35, x36, x37, x38, x39, x40, x41, x42, x43, x44, x45, x46, x47, x48, x49, x50, .ref h1, .ref h2, .ref h3, .ref h4, x55, x56, x57, x58, x59, x60, x61, x62, x63, x64, x65, x66, x67, x68, x69, x70, x71, x72, x73])), (h1, .inl (aC 0, 5, .inl (fun _ => 0))), (h2, .inl (aC 0, 40, .inl (fun _ => 0))), (h3, .inl (aC 0, 40, .inl (fun _ => 0))), (h4, .inl (aC 3, 40, .inl (fun _ => 0)))]) [0, 1, 2, 3, 4] (by decide) rfl
      exact rV () hx hb hr hlk hS trivial hP9 hD9 (Nat.le_of_ble_eq_true rfl) (Nat.le_of_ble_eq_true rfl) dX11_laysSeen_92
    | succ n ih =>
      intro k  H locs ls hk  hP hD hS hl
      have hk2 : k < 8 := by omega
      refine lv_iload_n hx hb dX11_laysSeen_14 rfl (lv_at hl 0 rfl) ?_
      refine lv_bipush (v := 8) hx hb dX11_laysSeen_15 (by decide) ?_
      refine lv_icmp_ge (tgt := 92) hx hb dX11_laysSeen_17 (by decide) (fun c_ => absurd c_ (show ¬ (nI 8 ≤ nI k) by rw [nI_leI (by omega) (by omega)]; omega)) (fun _ => ?_)
      refine lv_aload_n hx hb dX11_laysSeen_20 rfl (lv_at hl 1 rfl) ?_
      refine xget F hP 0 rfl rfl inX11 52 (by decide) tb1234 rfl dX11_laysSeen_21 ?_
      refine lv_bipush (v := 8) hx hb dX11_laysSeen_24 (by decide) ?_
      refine lv_iload_n hx hb dX11_laysSeen_26 rfl (lv_at hl 3 rfl) ?_
      refine lv_imul hx hb dX11_laysSeen_27 ?_
      refine relit (v := 8) (by decide +kernel) ?_
      refine lv_iload_n hx hb dX11_laysSeen_28 rfl (lv_at hl 0 rfl) ?_
      refine lv_iadd hx hb dX11_laysSeen_29 ?_
      refine relit (v := (nI (k + 8))) (nadd (a := 8) (b := k) (by omega)) ?_
      refine lv_aload_n hx hb dX11_laysSeen_30 rfl (lv_at hl 1 rfl) ?_
      refine xget F hP 0 rfl rfl inX11 52 (by decide) tb1234 rfl dX11_laysSeen_31 ?_
      refine lv_bipush (v := 8) hx hb dX11_laysSeen_34 (by decide) ?_
      refine lv_iload_n hx hb dX11_laysSeen_36 rfl (lv_at hl 2 rfl) ?_
      refine lv_imul hx hb dX11_laysSeen_37 ?_
      refine relit (v := 0) (by decide +kernel) ?_
      refine lv_iload_n hx hb dX11_laysSeen_38 rfl (lv_at hl 0 rfl) ?_
      refine lv_iadd hx hb dX11_laysSeen_39 ?_
      refine relit (v := (nI k)) (nadd (a := 0) (b := k) (by omega)) ?_
      refine xilo (v := 0) F hP 2 rfl k (nI_pos (by omega)) (nI_clamp (by omega)) (by omega) rfl dX11_laysSeen_40 ?_
      refine xist (f' := fun _ => 0) F hP hD hS 2 rfl (k + 8) (nI_pos (by omega)) (nI_clamp (by omega)) (by omega) (xup0 _) dX11_laysSeen_41 (fun H locs hP hD hS => ?_)
      have hP : va_P g vwCl [(h0, .inr (11, [x0, x1, x2, x3, x4, x5, x6, x7, x8, x9, x10, x11, x12, x13, x14, x15, x16, x17, x18, x19, x20, x21, x22, x23, x24, x25, x26, x27, x28, x29, x30, x31, x32, x33, x34, x35, x36, x37, x38, x39, x40, x41, x42, x43, x44, x45, x46, x47, x48, x49, x50, .ref h1, .ref h2, .ref h3, .ref h4, x55, x56, x57, x58, x59, x60, x61, x62, x63, x64, x65, x66, x67, x68, x69, x70, x71, x72, x73])), (h1, .inl (aC 0, 5, .inl (fun _ => 0))), (h2, .inl (aC 0, 40, .inl (fun _ => 0))), (h3, .inl (aC 0, 40, .inl (fun _ => 0))), (h4, .inl (aC 3, 40, .inl (fun _ => 0)))] H := hP
      have hD : va_D A [(h0, .inr (11, [x0, x1, x2, x3, x4, x5, x6, x7, x8, x9, x10, x11, x12, x13, x14, x15, x16, x17, x18, x19, x20, x21, x22, x23, x24, x25, x26, x27, x28, x29, x30, x31, x32, x33, x34, x35, x36, x37, x38, x39, x40, x41, x42, x43, x44, x45, x46, x47, x48, x49, x50, .ref h1, .ref h2, .ref h3, .ref h4, x55, x56, x57, x58, x59, x60, x61, x62, x63, x64, x65, x66, x67, x68, x69, x70, x71, x72, x73])), (h1, .inl (aC 0, 5, .inl (fun _ => 0))), (h2, .inl (aC 0, 40, .inl (fun _ => 0))), (h3, .inl (aC 0, 40, .inl (fun _ => 0))), (h4, .inl (aC 3, 40, .inl (fun _ => 0)))] := hD
      refine lv_aload_n hx hb dX11_laysSeen_42 rfl (lv_at hl 1 rfl) ?_
      refine xget F hP 0 rfl rfl inX11 53 (by decide) tb1235 rfl dX11_laysSeen_43 ?_
      refine lv_bipush (v := 8) hx hb dX11_laysSeen_46 (by decide) ?_
      refine lv_iload_n hx hb dX11_laysSeen_48 rfl (lv_at hl 3 rfl) ?_
      refine lv_imul hx hb dX11_laysSeen_49 ?_
      refine relit (v := 8) (by decide +kernel) ?_
      refine lv_iload_n hx hb dX11_laysSeen_50 rfl (lv_at hl 0 rfl) ?_
      refine lv_iadd hx hb dX11_laysSeen_51 ?_
      refine relit (v := (nI (k + 8))) (nadd (a := 8) (b := k) (by omega)) ?_
      refine lv_aload_n hx hb dX11_laysSeen_52 rfl (lv_at hl 1 rfl) ?_
      refine xget F hP 0 rfl rfl inX11 53 (by decide) tb1235 rfl dX11_laysSeen_53 ?_
      refine lv_bipush (v := 8) hx hb dX11_laysSeen_56 (by decide) ?_
      refine lv_iload_n hx hb dX11_laysSeen_58 rfl (lv_at hl 2 rfl) ?_
      refine lv_imul hx hb dX11_laysSeen_59 ?_
      refine relit (v := 0) (by decide +kernel) ?_
      refine lv_iload_n hx hb dX11_laysSeen_60 rfl (lv_at hl 0 rfl) ?_
      refine lv_iadd hx hb dX11_laysSeen_61 ?_
      refine relit (v := (nI k)) (nadd (a := 0) (b := k) (by omega)) ?_
      refine xilo (v := 0) F hP 3 rfl k (nI_pos (by omega)) (nI_clamp (by omega)) (by omega) rfl dX11_laysSeen_62 ?_
      refine xist (f' := fun _ => 0) F hP hD hS 3 rfl (k + 8) (nI_pos (by omega)) (nI_clamp (by omega)) (by omega) (xup0 _) dX11_laysSeen_63 (fun H locs hP hD hS => ?_)
      have hP : va_P g vwCl [(h0, .inr (11, [x0, x1, x2, x3, x4, x5, x6, x7, x8, x9, x10, x11, x12, x13, x14, x15, x16, x17, x18, x19, x20, x21, x22, x23, x24, x25, x26, x27, x28, x29, x30, x31, x32, x33, x34, x35, x36, x37, x38, x39, x40, x41, x42, x43, x44, x45, x46, x47, x48, x49, x50, .ref h1, .ref h2, .ref h3, .ref h4, x55, x56, x57, x58, x59, x60, x61, x62, x63, x64, x65, x66, x67, x68, x69, x70, x71, x72, x73])), (h1, .inl (aC 0, 5, .inl (fun _ => 0))), (h2, .inl (aC 0, 40, .inl (fun _ => 0))), (h3, .inl (aC 0, 40, .inl (fun _ => 0))), (h4, .inl (aC 3, 40, .inl (fun _ => 0)))] H := hP
      have hD : va_D A [(h0, .inr (11, [x0, x1, x2, x3, x4, x5, x6, x7, x8, x9, x10, x11, x12, x13, x14, x15, x16, x17, x18, x19, x20, x21, x22, x23, x24, x25, x26, x27, x28, x29, x30, x31, x32, x33, x34, x35, x36, x37, x38, x39, x40, x41, x42, x43, x44, x45, x46, x47, x48, x49, x50, .ref h1, .ref h2, .ref h3, .ref h4, x55, x56, x57, x58, x59, x60, x61, x62, x63, x64, x65, x66, x67, x68, x69, x70, x71, x72, x73])), (h1, .inl (aC 0, 5, .inl (fun _ => 0))), (h2, .inl (aC 0, 40, .inl (fun _ => 0))), (h3, .inl (aC 0, 40, .inl (fun _ => 0))), (h4, .inl (aC 3, 40, .inl (fun _ => 0)))] := hD
      refine lv_aload_n hx hb dX11_laysSeen_64 rfl (lv_at hl 1 rfl) ?_
      refine xget F hP 0 rfl rfl inX11 54 (by decide) tb1236 rfl dX11_laysSeen_65 ?_
      refine lv_bipush (v := 8) hx hb dX11_laysSeen_68 (by decide) ?_
      refine lv_iload_n hx hb dX11_laysSeen_70 rfl (lv_at hl 3 rfl) ?_
      refine lv_imul hx hb dX11_laysSeen_71 ?_
      refine relit (v := 8) (by decide +kernel) ?_
      refine lv_iload_n hx hb dX11_laysSeen_72 rfl (lv_at hl 0 rfl) ?_
      refine lv_iadd hx hb dX11_laysSeen_73 ?_
      refine relit (v := (nI (k + 8))) (nadd (a := 8) (b := k) (by omega)) ?_
      refine lv_aload_n hx hb dX11_laysSeen_74 rfl (lv_at hl 1 rfl) ?_
      refine xget F hP 0 rfl rfl inX11 54 (by decide) tb1236 rfl dX11_laysSeen_75 ?_
      refine lv_bipush (v := 8) hx hb dX11_laysSeen_78 (by decide) ?_
      refine lv_iload_n hx hb dX11_laysSeen_80 rfl (lv_at hl 2 rfl) ?_
      refine lv_imul hx hb dX11_laysSeen_81 ?_
      refine relit (v := 0) (by decide +kernel) ?_
      refine lv_iload_n hx hb dX11_laysSeen_82 rfl (lv_at hl 0 rfl) ?_
      refine lv_iadd hx hb dX11_laysSeen_83 ?_
      refine relit (v := (nI k)) (nadd (a := 0) (b := k) (by omega)) ?_
      refine xzlo (v := 0) F hP 4 rfl k (nI_pos (by omega)) (nI_clamp (by omega)) (by omega) rfl dX11_laysSeen_84 ?_
      refine xzst (f' := fun _ => 0) F hP hD hS 4 rfl (k + 8) (nI_pos (by omega)) (nI_clamp (by omega)) (by omega) (xz0 _ (by decide +kernel)) dX11_laysSeen_85 (fun H locs hP hD hS => ?_)
      have hP : va_P g vwCl [(h0, .inr (11, [x0, x1, x2, x3, x4, x5, x6, x7, x8, x9, x10, x11, x12, x13, x14, x15, x16, x17, x18, x19, x20, x21, x22, x23, x24, x25, x26, x27, x28, x29, x30, x31, x32, x33, x34, x35, x36, x37, x38, x39, x40, x41, x42, x43, x44, x45, x46, x47, x48, x49, x50, .ref h1, .ref h2, .ref h3, .ref h4, x55, x56, x57, x58, x59, x60, x61, x62, x63, x64, x65, x66, x67, x68, x69, x70, x71, x72, x73])), (h1, .inl (aC 0, 5, .inl (fun _ => 0))), (h2, .inl (aC 0, 40, .inl (fun _ => 0))), (h3, .inl (aC 0, 40, .inl (fun _ => 0))), (h4, .inl (aC 3, 40, .inl (fun _ => 0)))] H := hP
      have hD : va_D A [(h0, .inr (11, [x0, x1, x2, x3, x4, x5, x6, x7, x8, x9, x10, x11, x12, x13, x14, x15, x16, x17, x18, x19, x20, x21, x22, x23, x24, x25, x26, x27, x28, x29, x30, x31, x32, x33, x34, x35, x36, x37, x38, x39, x40, x41, x42, x43, x44, x45, x46, x47, x48, x49, x50, .ref h1, .ref h2, .ref h3, .ref h4, x55, x56, x57, x58, x59, x60, x61, x62, x63, x64, x65, x66, x67, x68, x69, x70, x71, x72, x73])), (h1, .inl (aC 0, 5, .inl (fun _ => 0))), (h2, .inl (aC 0, 40, .inl (fun _ => 0))), (h3, .inl (aC 0, 40, .inl (fun _ => 0))), (h4, .inl (aC 3, 40, .inl (fun _ => 0)))] := hD
      refine lv_iinc (v := (nI (k + 1))) (lv' := [(3, .int (nI (k + 1))), (0, .ref h0), (1, .int 0), (2, .int 1)]) hx hb dX11_laysSeen_86 hl (k := 0) rfl (ninc 1 (by omega)) (by decide) rfl (fun ls hl => ?_)
      refine lv_goto (tgt := 14) hx hb dX11_laysSeen_89 (by decide) ?_
      exact ih (k + 1)  _ _ _ (by omega) (hP.sub [0, 1, 2, 3, 4] rfl) (hD.sub [0, 1, 2, 3, 4] (by decide) rfl) hS (lv_sub hl [0, 1, 2, 3] rfl)
  exact hloop14 8 0  _ _ _ (by omega) hP hD hS hl

set_option maxHeartbeats 4000000 in
set_option maxRecDepth 100000 in
theorem k_laysLines_0_2 (l : Launch) (g : va_G) (aC : Nat → ClassId) (aM : Nat → Nat) (h0 h1 h2 h3 h4 h5 : Nat) (x0 x1 x2 x3 x4 x5 x6 x7 x8 x9 x10 x11 x12 x13 x14 x15 x16 x17 x18 x19 x20 x21 x22 x23 x24 x25 x26 x27 x28 x29 x30 x31 x32 x33 x34 x35 x36 x37 x38 x39 x40 x41 x42 x43 x44 x45 x51 x52 x53 x54 x55 x56 x57 x58 x59 x60 x61 x62 x63 x64 x65 x66 x67 x68 x69 x70 x71 x72 x73 : Value) : Ct l g aC aM yX11_laysLines cX11_laysLines 4 none 1 [.ref h0, .int 0, .int 2] [(h0, .inr (11, [x0, x1, x2, x3, x4, x5, x6, x7, x8, x9, x10, x11, x12, x13, x14, x15, x16, x17, x18, x19, x20, x21, x22, x23, x24, x25, x26, x27, x28, x29, x30, x31, x32, x33, x34, x35, x36, x37, x38, x39, x40, x41, x42, x43, x44, x45, .ref h1, .ref h2, .ref h3, .ref h4, .ref h5, x51, x52, x53, x54, x55, x56, x57, x58, x59, x60, x61, x62, x63, x64, x65, x66, x67, x68, x69, x70, x71, x72, x73])), (h1, .inl (aC 0, 6, .inl (fun _ => 0))), (h2, .inl (aC 0, 240, .inl (fun _ => 0))), (h3, .inl (aC 0, 240, .inl (fun _ => 0))), (h4, .inl (aC 0, 240, .inl (fun _ => 0))), (h5, .inl (aC 0, 240, .inl (fun _ => 0)))] (QV g (fun (_ : Unit) => True) (fun (_ : Unit) => [(h0, .inr (11, [x0, x1, x2, x3, x4, x5, x6, x7, x8, x9, x10, x11, x12, x13, x14, x15, x16, x17, x18, x19, x20, x21, x22, x23, x24, x25, x26, x27, x28, x29, x30, x31, x32, x33, x34, x35, x36, x37, x38, x39, x40, x41, x42, x43, x44, x45, .ref h1, .ref h2, .ref h3, .ref h4, .ref h5, x51, x52, x53, x54, x55, x56, x57, x58, x59, x60, x61, x62, x63, x64, x65, x66, x67, x68, x69, x70, x71, x72, x73])), (h1, .inl (aC 0, 6, .inl (fun _ => 0))), (h2, .inl (aC 0, 240, .inl (fun _ => 0))), (h3, .inl (aC 0, 240, .inl (fun _ => 0))), (h4, .inl (aC 0, 240, .inl (fun _ => 0))), (h5, .inl (aC 0, 240, .inl (fun _ => 0)))])) 0 0 := by
  refine Ct.mk (by decide) (Nat.le_of_ble_eq_true rfl) ?_
  intro p e s m below meth c A ls hx hb hml hown hts hr hlk hnm hK hA hM hM2 hP hD hS hl
  have hown : s.vm.findClass RX11 = some m.cls := hown
  have F : Fx p s m _ c cX11_laysLines 4 RX11 g aC aM A := ⟨hx, hb, hml, hown, hts, hK, hA, hM, hM2⟩
  have hl : lv_has ls 4 [(0, .ref h0), (1, .int 0), (2, .int 2)] := hl
  refine lv_aload_n hx hb dX11_laysLines_0 rfl (lv_at hl 0 rfl) ?_
  refine xget F hP 0 rfl rfl inX11 46 (by decide) tb1228 rfl dX11_laysLines_1 ?_
  refine lv_iload_n hx hb dX11_laysLines_4 rfl (lv_at hl 2 rfl) ?_
  refine lv_aload_n hx hb dX11_laysLines_5 rfl (lv_at hl 0 rfl) ?_
  refine xget F hP 0 rfl rfl inX11 46 (by decide) tb1228 rfl dX11_laysLines_6 ?_
  refine lv_iload_n hx hb dX11_laysLines_9 rfl (lv_at hl 1 rfl) ?_
  refine xilo (v := 0) F hP 1 rfl 0 (by decide +kernel) (by decide +kernel) (by decide) (by decide +kernel) dX11_laysLines_10 ?_
  refine xist (f' := fun _ => 0) F hP hD hS 1 rfl 2 (by decide +kernel) (by decide +kernel) (by decide) (xup0 _) dX11_laysLines_11 (fun H locs hP hD hS => ?_)
  have hP : va_P g vwCl [(h0, .inr (11, [x0, x1, x2, x3, x4, x5, x6, x7, x8, x9, x10, x11, x12, x13, x14, x15, x16, x17, x18, x19, x20, x21, x22, x23, x24, x25, x26, x27, x28, x29, x30, x31, x32, x33, x34, x35, x36, x37, x38, x39, x40, x41, x42, x43, x44, x45, .ref h1, .ref h2, .ref h3, .ref h4, .ref h5, x51, x52, x53, x54, x55, x56, x57, x58, x59, x60, x61, x62, x63, x64, x65, x66, x67, x68, x69, x70, x71, x72, x73])), (h1, .inl (aC 0, 6, .inl (fun _ => 0))), (h2, .inl (aC 0, 240, .inl (fun _ => 0))), (h3, .inl (aC 0, 240, .inl (fun _ => 0))), (h4, .inl (aC 0, 240, .inl (fun _ => 0))), (h5, .inl (aC 0, 240, .inl (fun _ => 0)))] H := hP
  have hD : va_D A [(h0, .inr (11, [x0, x1, x2, x3, x4, x5, x6, x7, x8, x9, x10, x11, x12, x13, x14, x15, x16, x17, x18, x19, x20, x21, x22, x23, x24, x25, x26, x27, x28, x29, x30, x31, x32, x33, x34, x35, x36, x37, x38, x39, x40, x41, x42, x43, x44, x45, .ref h1, .ref h2, .ref h3, .ref h4, .ref h5, x51, x52, x53, x54, x55, x56, x57, x58, x59, x60, x61, x62, x63, x64, x65, x66, x67, x68, x69, x70, x71, x72, x73])), (h1, .inl (aC 0, 6, .inl (fun _ => 0))), (h2, .inl (aC 0, 240, .inl (fun _ => 0))), (h3, .inl (aC 0, 240, .inl (fun _ => 0))), (h4, .inl (aC 0, 240, .inl (fun _ => 0))), (h5, .inl (aC 0, 240, .inl (fun _ => 0)))] := hD
  refine lv_iconst (v := 0) hx hb dX11_laysLines_12 (by decide) ?_
  refine lv_istore_n (lv' := [(3, .int 0), (0, .ref h0), (1, .int 0), (2, .int 2)]) hx hb dX11_laysLines_13 rfl hl (by decide) rfl (fun ls hl => ?_)
  refine W.widen (k := 0) (n := 0) (Nat.le_of_ble_eq_true rfl) (Nat.le_of_ble_eq_true rfl) ?_
  have hloop14 : ∀ (n k : Nat) (H : Heap) (locs : List Loc) (ls : Array Slot), k + n = 40 → va_P g vwCl [(h0, .inr (11, [x0, x1, x2, x3, x4, x5, x6, x7, x8, x9, x10, x11, x12, x13, x14, x15, x16, x17, x18, x19, x20, x21, x22, x23, x24, x25, x26, x27, x28, x29, x30, x31, x32, x33, x34, x35, x36, x37, x38, x39, x40, x41, x42, x43, x44, x45, .ref h1, .ref h2, .ref h3, .ref h4, .ref h5, x51, x52, x53, x54, x55, x56, x57, x58, x59, x60, x61, x62, x63, x64, x65, x66, x67, x68, x69, x70, x71, x72, x73])), (h1, .inl (aC 0, 6, .inl (fun _ => 0))), (h2, .inl (aC 0, 240, .inl (fun _ => 0))), (h3, .inl (aC 0, 240, .inl (fun _ => 0))), (h4, .inl (aC 0, 240, .inl (fun _ => 0))), (h5, .inl (aC 0, 240, .inl (fun _ => 0)))] H → va_D A [(h0, .inr (11, [x0, x1, x2, x3, x4, x5, x6, x7, x8, x9, x10, x11, x12, x13, x14, x15, x16, x17, x18, x19, x20, x21, x22, x23, x24, x25, x26, x27, x28, x29, x30, x31, x32, x33, x34, x35, x36, x37, x38, x39, x40, x41, x42, x43, x44, x45, .ref h1, .ref h2, .ref h3, .ref h4, .ref h5, x51, x52, x53, x54, x55, x56, x57, x58, x59, x60, x61, x62, x63, x64, x65, x66, x67, x68, x69, x70, x71, x72, x73])), (h1, .inl (aC 0, 6, .inl (fun _ => 0))), (h2, .inl (aC 0, 240, .inl (fun _ => 0))), (h3, .inl (aC 0, 240, .inl (fun _ => 0))), (h4, .inl (aC 0, 240, .inl (fun _ => 0))), (h5, .inl (aC 0, 240, .inl (fun _ => 0)))] → va_S A s.heap H locs → lv_has ls 4 [(3, .int (nI k)), (0, .ref h0), (1, .int 0), (2, .int 2)] → W p l e (rmL 1 0 0) s m [.ref h0, .int 0, .int 2].toArray below meth c H locs 0 0 (MQ below (QV g (fun (_ : Unit) => True) (fun (_ : Unit) => [(h0, .inr (11, [x0, x1, x2, x3, x4, x5, x6, x7, x8, x9, x10, x11, x12, x13, x14, x15, x16, x17, x18, x19, x20, x21, x22, x23, x24, x25, x26, x27, x28, x29, x30, x31, x32, x33, x34, x35, x36, x37, x38, x39, x40, x41, x42, x43, x44, x45, .ref h1, .ref h2, .ref h3, .ref h4, .ref h5, x51, x52, x53, x54, x55, x56, x57, x58, x59, x60, x61, x62, x63, x64, x65, x66, x67, x68, x69, x70, x71, x72, x73])), (h1, .inl (aC 0, 6, .inl (fun _ => 0))), (h2, .inl (aC 0, 240, .inl (fun _ => 0))), (h3, .inl (aC 0, 240, .inl (fun _ => 0))), (h4, .inl (aC 0, 240, .inl (fun _ => 0))), (h5, .inl (aC 0, 240, .inl (fun _ => 0)))]) A) [.ref h0, .int 0, .int 2].toArray s 0 0 A) (F0 m 14 ls []) := by
    intro n
    induction n with
    | zero =>
      intro k  H locs ls hk  hP hD hS hl
      obtain rfl : k = 40 := by omega
      have hl : lv_has ls 4 [(3, .int 40), (0, .ref h0), (1, .int 0), (2, .int 2)] := hl
      refine lv_iload_n hx hb dX11_laysLines_14 rfl (lv_at hl 0 rfl) ?_
      refine lv_bipush (v := 40) hx hb dX11_laysLines_15 (by decide) ?_
      refine lv_icmp_ge (tgt := 114) hx hb dX11_laysLines_17 (by decide) (fun _ => ?_) (fun c_ => absurd (by decide +kernel) c_)
      have hP9 := hP.sub (ws' := [(h0, .inr (11, [x0, x1, x2, x3, x4, x5, x6, x7, x8, x9, x10, x11, x12, x13, x14, x15, x16, x17, x18, x19, x20, x21, x22, x23, x24, x25, x26, x27, x28, x29, x30, x31, x32, x33, x34, x35, x36, x37, x38, x39, x40, x41, x42, x43, x44, x45, .ref h1, .ref h2, .ref h3, .ref h4, .ref h5, x51, x52, x53, x54, x55, x56, x57, x58, x59, x60, x61, x62, x63, x64, x65, x66, x67, x68, x69, x70, x71, x72, x73])), (h1, .inl (aC 0, 6, .inl (fun _ => 0))), (h2, .inl (aC 0, 240, .inl (fun _ => 0))), (h3, .inl (aC 0, 240, .inl (fun _ => 0))), (h4, .inl (aC 0, 240, .inl (fun _ => 0))), (h5, .inl (aC 0, 240, .inl (fun _ => 0)))]) [0, 1, 2, 3, 4, 5] rfl
      have hD9 := hD.sub (ws' := [(h0, .inr (11, [x0, x1, x2, x3, x4, x5, x6, x7, x8, x9, x10, x11, x12, x13, x14, x15, x16, x17, x18, x19, x20, x21, x22, x23, x24, x25, x26, x27, x28, x29, x30, x31, x32, x33, x34, x35, x36, x37, x38, x39, x40, x41, x42, x43, x44, x45, .ref h1, .ref h2, .ref h3, .ref h4, .ref h5, x51, x52, x53, x54, x55, x56, x57, x58, x59, x60, x61, x62, x63, x64, x65, x66, x67, x68, x69, x70, x71, x72, x73])), (h1, .inl (aC 0, 6, .inl (fun _ => 0))), (h2, .inl (aC 0, 240, .inl (fun _ => 0))), (h3, .inl (aC 0, 240, .inl (fun _ => 0))), (h4, .inl (aC 0, 240, .inl (fun _ => 0))), (h5, .inl (aC 0, 240, .inl (fun _ => 0)))]) [0, 1, 2, 3, 4, 5] (by decide) rfl
      exact rV () hx hb hr hlk hS trivial hP9 hD9 (Nat.le_of_ble_eq_true rfl) (Nat.le_of_ble_eq_true rfl) dX11_laysLines_114
    | succ n ih =>
      intro k  H locs ls hk  hP hD hS hl
      have hk2 : k < 40 := by omega
      refine lv_iload_n hx hb dX11_laysLines_14 rfl (lv_at hl 0 rfl) ?_
      refine lv_bipush (v := 40) hx hb dX11_laysLines_15 (by decide) ?_
      refine lv_icmp_ge (tgt := 114) hx hb dX11_laysLines_17 (by decide) (fun c_ => absurd c_ (show ¬ (nI 40 ≤ nI k) by rw [nI_leI (by omega) (by omega)]; omega)) (fun _ => ?_)
      refine lv_aload_n hx hb dX11_laysLines_20 rfl (lv_at hl 1 rfl) ?_
      refine xget F hP 0 rfl rfl inX11 47 (by decide) tb1229 rfl dX11_laysLines_21 ?_
      refine lv_bipush (v := 40) hx hb dX11_laysLines_24 (by decide) ?_
      refine lv_iload_n hx hb dX11_laysLines_26 rfl (lv_at hl 3 rfl) ?_
      refine lv_imul hx hb dX11_laysLines_27 ?_
      refine relit (v := 80) (by decide +kernel) ?_
      refine lv_iload_n hx hb dX11_laysLines_28 rfl (lv_at hl 0 rfl) ?_
      refine lv_iadd hx hb dX11_laysLines_29 ?_
      refine relit (v := (nI (k + 80))) (nadd (a := 80) (b := k) (by omega)) ?_
      refine lv_aload_n hx hb dX11_laysLines_30 rfl (lv_at hl 1 rfl) ?_
      refine xget F hP 0 rfl rfl inX11 47 (by decide) tb1229 rfl dX11_laysLines_31 ?_
      refine lv_bipush (v := 40) hx hb dX11_laysLines_34 (by decide) ?_
      refine lv_iload_n hx hb dX11_laysLines_36 rfl (lv_at hl 2 rfl) ?_
      refine lv_imul hx hb dX11_laysLines_37 ?_
      refine relit (v := 0) (by decide +kernel) ?_
      refine lv_iload_n hx hb dX11_laysLines_38 rfl (lv_at hl 0 rfl) ?_
      refine lv_iadd hx hb dX11_laysLines_39 ?_
      refine relit (v := (nI k)) (nadd (a := 0) (b := k) (by omega)) ?_
      refine xilo (v := 0) F hP 2 rfl k (nI_pos (by omega)) (nI_clamp (by omega)) (by omega) rfl dX11_laysLines_40 ?_
      refine xist (f' := fun _ => 0) F hP hD hS 2 rfl (k + 80) (nI_pos (by omega)) (nI_clamp (by omega)) (by omega) (xup0 _) dX11_laysLines_41 (fun H locs hP hD hS => ?_)
      have hP : va_P g vwCl [(h0, .inr (11, [x0, x1, x2, x3, x4, x5, x6, x7, x8, x9, x10, x11, x12, x13, x14, x15, x16, x17, x18, x19, x20, x21, x22, x23, x24, x25, x26, x27, x28, x29, x30, x31, x32, x33, x34, x35, x36, x37, x38, x39, x40, x41, x42, x43, x44, x45, .ref h1, .ref h2, .ref h3, .ref h4, .ref h5, x51, x52, x53, x54, x55, x56, x57, x58, x59, x60, x61, x62, x63, x64, x65, x66, x67, x68, x69, x70, x71, x72, x73])), (h1, .inl (aC 0, 6, .inl (fun _ => 0))), (h2, .inl (aC 0, 240, .inl (fun _ => 0))), (h3, .inl (aC 0, 240, .inl (fun _ => 0))), (h4, .inl (aC 0, 240, .inl (fun _ => 0))), (h5, .inl (aC 0, 240, .inl (fun _ => 0)))] H := hP
      have hD : va_D A [(h0, .inr (11, [x0, x1, x2, x3, x4, x5, x6, x7, x8, x9, x10, x11, x12, x13, x14, x15, x16, x17, x18, x19, x20, x21, x22, x23, x24, x25, x26, x27, x28, x29, x30, x31, x32, x33, x34, x35, x36, x37, x38, x39, x40, x41, x42, x43, x44, x45, .ref h1, .ref h2, .ref h3, .ref h4, .ref h5, x51, x52, x53, x54, x55, x56, x57, x58, x59, x60, x61, x62, x63, x64, x65, x66, x67, x68, x69, x70, x71, x72, x73])), (h1, .inl (aC 0, 6, .inl (fun _ => 0))), (h2, .inl (aC 0, 240, .inl (fun _ => 0))), (h3, .inl (aC 0, 240, .inl (fun _ => 0))), (h4, .inl (aC 0, 240, .inl (fun _ => 0))), (h5, .inl (aC 0, 240, .inl (fun _ => 0)))] := hD
      refine lv_aload_n hx hb dX11_laysLines_42 rfl (lv_at hl 1 rfl) ?_
      refine xget F hP 0 rfl rfl inX11 48 (by decide) tb1230 rfl dX11_laysLines_43 ?_
      refine lv_bipush (v := 40) hx hb dX11_laysLines_46 (by decide) ?_
      refine lv_iload_n hx hb dX11_laysLines_48 rfl (lv_at hl 3 rfl) ?_
      refine lv_imul hx hb dX11_laysLines_49 ?_
      refine relit (v := 80) (by decide +kernel) ?_
      refine lv_iload_n hx hb dX11_laysLines_50 rfl (lv_at hl 0 rfl) ?_
      refine lv_iadd hx hb dX11_laysLines_51 ?_
      refine relit (v := (nI (k + 80))) (nadd (a := 80) (b := k) (by omega)) ?_
      refine lv_aload_n hx hb dX11_laysLines_52 rfl (lv_at hl 1 rfl) ?_
      refine xget F hP 0 rfl rfl inX11 48 (by decide) tb1230 rfl dX11_laysLines_53 ?_
      refine lv_bipush (v := 40) hx hb dX11_laysLines_56 (by decide) ?_
      refine lv_iload_n hx hb dX11_laysLines_58 rfl (lv_at hl 2 rfl) ?_
      refine lv_imul hx hb dX11_laysLines_59 ?_
      refine relit (v := 0) (by decide +kernel) ?_
      refine lv_iload_n hx hb dX11_laysLines_60 rfl (lv_at hl 0 rfl) ?_
      refine lv_iadd hx hb dX11_laysLines_61 ?_
      refine relit (v := (nI k)) (nadd (a := 0) (b := k) (by omega)) ?_
      refine xilo (v := 0) F hP 3 rfl k (nI_pos (by omega)) (nI_clamp (by omega)) (by omega) rfl dX11_laysLines_62 ?_
      refine xist (f' := fun _ => 0) F hP hD hS 3 rfl (k + 80) (nI_pos (by omega)) (nI_clamp (by omega)) (by omega) (xup0 _) dX11_laysLines_63 (fun H locs hP hD hS => ?_)
      have hP : va_P g vwCl [(h0, .inr (11, [x0, x1, x2, x3, x4, x5, x6, x7, x8, x9, x10, x11, x12, x13, x14, x15, x16, x17, x18, x19, x20, x21, x22, x23, x24, x25, x26, x27, x28, x29, x30, x31, x32, x33, x34, x35, x36, x37, x38, x39, x40, x41, x42, x43, x44, x45, .ref h1, .ref h2, .ref h3, .ref h4, .ref h5, x51, x52, x53, x54, x55, x56, x57, x58, x59, x60, x61, x62, x63, x64, x65, x66, x67, x68, x69, x70, x71, x72, x73])), (h1, .inl (aC 0, 6, .inl (fun _ => 0))), (h2, .inl (aC 0, 240, .inl (fun _ => 0))), (h3, .inl (aC 0, 240, .inl (fun _ => 0))), (h4, .inl (aC 0, 240, .inl (fun _ => 0))), (h5, .inl (aC 0, 240, .inl (fun _ => 0)))] H := hP
      have hD : va_D A [(h0, .inr (11, [x0, x1, x2, x3, x4, x5, x6, x7, x8, x9, x10, x11, x12, x13, x14, x15, x16, x17, x18, x19, x20, x21, x22, x23, x24, x25, x26, x27, x28, x29, x30, x31, x32, x33, x34, x35, x36, x37, x38, x39, x40, x41, x42, x43, x44, x45, .ref h1, .ref h2, .ref h3, .ref h4, .ref h5, x51, x52, x53, x54, x55, x56, x57, x58, x59, x60, x61, x62, x63, x64, x65, x66, x67, x68, x69, x70, x71, x72, x73])), (h1, .inl (aC 0, 6, .inl (fun _ => 0))), (h2, .inl (aC 0, 240, .inl (fun _ => 0))), (h3, .inl (aC 0, 240, .inl (fun _ => 0))), (h4, .inl (aC 0, 240, .inl (fun _ => 0))), (h5, .inl (aC 0, 240, .inl (fun _ => 0)))] := hD
      refine lv_aload_n hx hb dX11_laysLines_64 rfl (lv_at hl 1 rfl) ?_
      refine xget F hP 0 rfl rfl inX11 49 (by decide) tb1231 rfl dX11_laysLines_65 ?_
      refine lv_bipush (v := 40) hx hb dX11_laysLines_68 (by decide) ?_
      refine lv_iload_n hx hb dX11_laysLines_70 rfl (lv_at hl 3 rfl) ?_
      refine lv_imul hx hb dX11_laysLines_71 ?_
      refine relit (v := 80) (by decide +kernel) ?_
      refine lv_iload_n hx hb dX11_laysLines_72 rfl (lv_at hl 0 rfl) ?_
      refine lv_iadd hx hb dX11_laysLines_73 ?_
      refine relit (v := (nI (k + 80))) (nadd (a := 80) (b := k) (by omega)) ?_
      refine lv_aload_n hx hb dX11_laysLines_74 rfl (lv_at hl 1 rfl) ?_
      refine xget F hP 0 rfl rfl inX11 49 (by decide) tb1231 rfl dX11_laysLines_75 ?_
      refine lv_bipush (v := 40) hx hb dX11_laysLines_78 (by decide) ?_
      refine lv_iload_n hx hb dX11_laysLines_80 rfl (lv_at hl 2 rfl) ?_
      refine lv_imul hx hb dX11_laysLines_81 ?_
      refine relit (v := 0) (by decide +kernel) ?_
      refine lv_iload_n hx hb dX11_laysLines_82 rfl (lv_at hl 0 rfl) ?_
      refine lv_iadd hx hb dX11_laysLines_83 ?_
      refine relit (v := (nI k)) (nadd (a := 0) (b := k) (by omega)) ?_
      refine xilo (v := 0) F hP 4 rfl k (nI_pos (by omega)) (nI_clamp (by omega)) (by omega) rfl dX11_laysLines_84 ?_
      refine xist (f' := fun _ => 0) F hP hD hS 4 rfl (k + 80) (nI_pos (by omega)) (nI_clamp (by omega)) (by omega) (xup0 _) dX11_laysLines_85 (fun H locs hP hD hS => ?_)
      have hP : va_P g vwCl [(h0, .inr (11, [x0, x1, x2, x3, x4, x5, x6, x7, x8, x9, x10, x11, x12, x13, x14, x15, x16, x17, x18, x19, x20, x21, x22, x23, x24, x25, x26, x27, x28, x29, x30, x31, x32, x33, x34, x35, x36, x37, x38, x39, x40, x41, x42, x43, x44, x45, .ref h1, .ref h2, .ref h3, .ref h4, .ref h5, x51, x52, x53, x54, x55, x56, x57, x58, x59, x60, x61, x62, x63, x64, x65, x66, x67, x68, x69, x70, x71, x72, x73])), (h1, .inl (aC 0, 6, .inl (fun _ => 0))), (h2, .inl (aC 0, 240, .inl (fun _ => 0))), (h3, .inl (aC 0, 240, .inl (fun _ => 0))), (h4, .inl (aC 0, 240, .inl (fun _ => 0))), (h5, .inl (aC 0, 240, .inl (fun _ => 0)))] H := hP
      have hD : va_D A [(h0, .inr (11, [x0, x1, x2, x3, x4, x5, x6, x7, x8, x9, x10, x11, x12, x13, x14, x15, x16, x17, x18, x19, x20, x21, x22, x23, x24, x25, x26, x27, x28, x29, x30, x31, x32, x33, x34, x35, x36, x37, x38, x39, x40, x41, x42, x43, x44, x45, .ref h1, .ref h2, .ref h3, .ref h4, .ref h5, x51, x52, x53, x54, x55, x56, x57, x58, x59, x60, x61, x62, x63, x64, x65, x66, x67, x68, x69, x70, x71, x72, x73])), (h1, .inl (aC 0, 6, .inl (fun _ => 0))), (h2, .inl (aC 0, 240, .inl (fun _ => 0))), (h3, .inl (aC 0, 240, .inl (fun _ => 0))), (h4, .inl (aC 0, 240, .inl (fun _ => 0))), (h5, .inl (aC 0, 240, .inl (fun _ => 0)))] := hD
      refine lv_aload_n hx hb dX11_laysLines_86 rfl (lv_at hl 1 rfl) ?_
      refine xget F hP 0 rfl rfl inX11 50 (by decide) tb1232 rfl dX11_laysLines_87 ?_
      refine lv_bipush (v := 40) hx hb dX11_laysLines_90 (by decide) ?_
      refine lv_iload_n hx hb dX11_laysLines_92 rfl (lv_at hl 3 rfl) ?_
      refine lv_imul hx hb dX11_laysLines_93 ?_
      refine relit (v := 80) (by decide +kernel) ?_
      refine lv_iload_n hx hb dX11_laysLines_94 rfl (lv_at hl 0 rfl) ?_
      refine lv_iadd hx hb dX11_laysLines_95 ?_
      refine relit (v := (nI (k + 80))) (nadd (a := 80) (b := k) (by omega)) ?_
      refine lv_aload_n hx hb dX11_laysLines_96 rfl (lv_at hl 1 rfl) ?_
      refine xget F hP 0 rfl rfl inX11 50 (by decide) tb1232 rfl dX11_laysLines_97 ?_
      refine lv_bipush (v := 40) hx hb dX11_laysLines_100 (by decide) ?_
      refine lv_iload_n hx hb dX11_laysLines_102 rfl (lv_at hl 2 rfl) ?_
      refine lv_imul hx hb dX11_laysLines_103 ?_
      refine relit (v := 0) (by decide +kernel) ?_
      refine lv_iload_n hx hb dX11_laysLines_104 rfl (lv_at hl 0 rfl) ?_
      refine lv_iadd hx hb dX11_laysLines_105 ?_
      refine relit (v := (nI k)) (nadd (a := 0) (b := k) (by omega)) ?_
      refine xilo (v := 0) F hP 5 rfl k (nI_pos (by omega)) (nI_clamp (by omega)) (by omega) rfl dX11_laysLines_106 ?_
      refine xist (f' := fun _ => 0) F hP hD hS 5 rfl (k + 80) (nI_pos (by omega)) (nI_clamp (by omega)) (by omega) (xup0 _) dX11_laysLines_107 (fun H locs hP hD hS => ?_)
      have hP : va_P g vwCl [(h0, .inr (11, [x0, x1, x2, x3, x4, x5, x6, x7, x8, x9, x10, x11, x12, x13, x14, x15, x16, x17, x18, x19, x20, x21, x22, x23, x24, x25, x26, x27, x28, x29, x30, x31, x32, x33, x34, x35, x36, x37, x38, x39, x40, x41, x42, x43, x44, x45, .ref h1, .ref h2, .ref h3, .ref h4, .ref h5, x51, x52, x53, x54, x55, x56, x57, x58, x59, x60, x61, x62, x63, x64, x65, x66, x67, x68, x69, x70, x71, x72, x73])), (h1, .inl (aC 0, 6, .inl (fun _ => 0))), (h2, .inl (aC 0, 240, .inl (fun _ => 0))), (h3, .inl (aC 0, 240, .inl (fun _ => 0))), (h4, .inl (aC 0, 240, .inl (fun _ => 0))), (h5, .inl (aC 0, 240, .inl (fun _ => 0)))] H := hP
      have hD : va_D A [(h0, .inr (11, [x0, x1, x2, x3, x4, x5, x6, x7, x8, x9, x10, x11, x12, x13, x14, x15, x16, x17, x18, x19, x20, x21, x22, x23, x24, x25, x26, x27, x28, x29, x30, x31, x32, x33, x34, x35, x36, x37, x38, x39, x40, x41, x42, x43, x44, x45, .ref h1, .ref h2, .ref h3, .ref h4, .ref h5, x51, x52, x53, x54, x55, x56, x57, x58, x59, x60, x61, x62, x63, x64, x65, x66, x67, x68, x69, x70, x71, x72, x73])), (h1, .inl (aC 0, 6, .inl (fun _ => 0))), (h2, .inl (aC 0, 240, .inl (fun _ => 0))), (h3, .inl (aC 0, 240, .inl (fun _ => 0))), (h4, .inl (aC 0, 240, .inl (fun _ => 0))), (h5, .inl (aC 0, 240, .inl (fun _ => 0)))] := hD
      refine lv_iinc (v := (nI (k + 1))) (lv' := [(3, .int (nI (k + 1))), (0, .ref h0), (1, .int 0), (2, .int 2)]) hx hb dX11_laysLines_108 hl (k := 0) rfl (ninc 1 (by omega)) (by decide) rfl (fun ls hl => ?_)
      refine lv_goto (tgt := 14) hx hb dX11_laysLines_111 (by decide) ?_
      exact ih (k + 1)  _ _ _ (by omega) (hP.sub [0, 1, 2, 3, 4, 5] rfl) (hD.sub [0, 1, 2, 3, 4, 5] (by decide) rfl) hS (lv_sub hl [0, 1, 2, 3] rfl)
  exact hloop14 40 0  _ _ _ (by omega) hP hD hS hl

set_option maxHeartbeats 4000000 in
set_option maxRecDepth 100000 in
theorem k_laysSeen_0_2 (l : Launch) (g : va_G) (aC : Nat → ClassId) (aM : Nat → Nat) (h0 h1 h2 h3 h4 : Nat) (x0 x1 x2 x3 x4 x5 x6 x7 x8 x9 x10 x11 x12 x13 x14 x15 x16 x17 x18 x19 x20 x21 x22 x23 x24 x25 x26 x27 x28 x29 x30 x31 x32 x33 x34 x35 x36 x37 x38 x39 x40 x41 x42 x43 x44 x45 x46 x47 x48 x49 x50 x55 x56 x57 x58 x59 x60 x61 x62 x63 x64 x65 x66 x67 x68 x69 x70 x71 x72 x73 : Value) : Ct l g aC aM yX11_laysSeen cX11_laysSeen 4 none 1 [.ref h0, .int 0, .int 2] [(h0, .inr (11, [x0, x1, x2, x3, x4, x5, x6, x7, x8, x9, x10, x11, x12, x13, x14, x15, x16, x17, x18, x19, x20, x21, x22, x23, x24, x25, x26, x27, x28, x29, x30, x31, x32, x33, x34, x35, x36, x37, x38, x39, x40, x41, x42, x43, x44, x45, x46, x47, x48, x49, x50, .ref h1, .ref h2, .ref h3, .ref h4, x55, x56, x57, x58, x59, x60, x61, x62, x63, x64, x65, x66, x67, x68, x69, x70, x71, x72, x73])), (h1, .inl (aC 0, 5, .inl (fun _ => 0))), (h2, .inl (aC 0, 40, .inl (fun _ => 0))), (h3, .inl (aC 0, 40, .inl (fun _ => 0))), (h4, .inl (aC 3, 40, .inl (fun _ => 0)))] (QV g (fun (_ : Unit) => True) (fun (_ : Unit) => [(h0, .inr (11, [x0, x1, x2, x3, x4, x5, x6, x7, x8, x9, x10, x11, x12, x13, x14, x15, x16, x17, x18, x19, x20, x21, x22, x23, x24, x25, x26, x27, x28, x29, x30, x31, x32, x33, x34, x35, x36, x37, x38, x39, x40, x41, x42, x43, x44, x45, x46, x47, x48, x49, x50, .ref h1, .ref h2, .ref h3, .ref h4, x55, x56, x57, x58, x59, x60, x61, x62, x63, x64, x65, x66, x67, x68, x69, x70, x71, x72, x73])), (h1, .inl (aC 0, 5, .inl (fun _ => 0))), (h2, .inl (aC 0, 40, .inl (fun _ => 0))), (h3, .inl (aC 0, 40, .inl (fun _ => 0))), (h4, .inl (aC 3, 40, .inl (fun _ => 0)))])) 0 0 := by
  refine Ct.mk (by decide) (Nat.le_of_ble_eq_true rfl) ?_
  intro p e s m below meth c A ls hx hb hml hown hts hr hlk hnm hK hA hM hM2 hP hD hS hl
  have hown : s.vm.findClass RX11 = some m.cls := hown
  have F : Fx p s m _ c cX11_laysSeen 4 RX11 g aC aM A := ⟨hx, hb, hml, hown, hts, hK, hA, hM, hM2⟩
  have hl : lv_has ls 4 [(0, .ref h0), (1, .int 0), (2, .int 2)] := hl
  refine lv_aload_n hx hb dX11_laysSeen_0 rfl (lv_at hl 0 rfl) ?_
  refine xget F hP 0 rfl rfl inX11 51 (by decide) tb1233 rfl dX11_laysSeen_1 ?_
  refine lv_iload_n hx hb dX11_laysSeen_4 rfl (lv_at hl 2 rfl) ?_
  refine lv_aload_n hx hb dX11_laysSeen_5 rfl (lv_at hl 0 rfl) ?_
  refine xget F hP 0 rfl rfl inX11 51 (by decide) tb1233 rfl dX11_laysSeen_6 ?_
  refine lv_iload_n hx hb dX11_laysSeen_9 rfl (lv_at hl 1 rfl) ?_
  refine xilo (v := 0) F hP 1 rfl 0 (by decide +kernel) (by decide +kernel) (by decide) (by decide +kernel) dX11_laysSeen_10 ?_
  refine xist (f' := fun _ => 0) F hP hD hS 1 rfl 2 (by decide +kernel) (by decide +kernel) (by decide) (xup0 _) dX11_laysSeen_11 (fun H locs hP hD hS => ?_)
  have hP : va_P g vwCl [(h0, .inr (11, [x0, x1, x2, x3, x4, x5, x6, x7, x8, x9, x10, x11, x12, x13, x14, x15, x16, x17, x18, x19, x20, x21, x22, x23, x24, x25, x26, x27, x28, x29, x30, x31, x32, x33, x34, x35, x36, x37, x38, x39, x40, x41, x42, x43, x44, x45, x46, x47, x48, x49, x50, .ref h1, .ref h2, .ref h3, .ref h4, x55, x56, x57, x58, x59, x60, x61, x62, x63, x64, x65, x66, x67, x68, x69, x70, x71, x72, x73])), (h1, .inl (aC 0, 5, .inl (fun _ => 0))), (h2, .inl (aC 0, 40, .inl (fun _ => 0))), (h3, .inl (aC 0, 40, .inl (fun _ => 0))), (h4, .inl (aC 3, 40, .inl (fun _ => 0)))] H := hP
  have hD : va_D A [(h0, .inr (11, [x0, x1, x2, x3, x4, x5, x6, x7, x8, x9, x10, x11, x12, x13, x14, x15, x16, x17, x18, x19, x20, x21, x22, x23, x24, x25, x26, x27, x28, x29, x30, x31, x32, x33, x34, x35, x36, x37, x38, x39, x40, x41, x42, x43, x44, x45, x46, x47, x48, x49, x50, .ref h1, .ref h2, .ref h3, .ref h4, x55, x56, x57, x58, x59, x60, x61, x62, x63, x64, x65, x66, x67, x68, x69, x70, x71, x72, x73])), (h1, .inl (aC 0, 5, .inl (fun _ => 0))), (h2, .inl (aC 0, 40, .inl (fun _ => 0))), (h3, .inl (aC 0, 40, .inl (fun _ => 0))), (h4, .inl (aC 3, 40, .inl (fun _ => 0)))] := hD
  refine lv_iconst (v := 0) hx hb dX11_laysSeen_12 (by decide) ?_
  refine lv_istore_n (lv' := [(3, .int 0), (0, .ref h0), (1, .int 0), (2, .int 2)]) hx hb dX11_laysSeen_13 rfl hl (by decide) rfl (fun ls hl => ?_)
  refine W.widen (k := 0) (n := 0) (Nat.le_of_ble_eq_true rfl) (Nat.le_of_ble_eq_true rfl) ?_
  have hloop14 : ∀ (n k : Nat) (H : Heap) (locs : List Loc) (ls : Array Slot), k + n = 8 → va_P g vwCl [(h0, .inr (11, [x0, x1, x2, x3, x4, x5, x6, x7, x8, x9, x10, x11, x12, x13, x14, x15, x16, x17, x18, x19, x20, x21, x22, x23, x24, x25, x26, x27, x28, x29, x30, x31, x32, x33, x34, x35, x36, x37, x38, x39, x40, x41, x42, x43, x44, x45, x46, x47, x48, x49, x50, .ref h1, .ref h2, .ref h3, .ref h4, x55, x56, x57, x58, x59, x60, x61, x62, x63, x64, x65, x66, x67, x68, x69, x70, x71, x72, x73])), (h1, .inl (aC 0, 5, .inl (fun _ => 0))), (h2, .inl (aC 0, 40, .inl (fun _ => 0))), (h3, .inl (aC 0, 40, .inl (fun _ => 0))), (h4, .inl (aC 3, 40, .inl (fun _ => 0)))] H → va_D A [(h0, .inr (11, [x0, x1, x2, x3, x4, x5, x6, x7, x8, x9, x10, x11, x12, x13, x14, x15, x16, x17, x18, x19, x20, x21, x22, x23, x24, x25, x26, x27, x28, x29, x30, x31, x32, x33, x34, x35, x36, x37, x38, x39, x40, x41, x42, x43, x44, x45, x46, x47, x48, x49, x50, .ref h1, .ref h2, .ref h3, .ref h4, x55, x56, x57, x58, x59, x60, x61, x62, x63, x64, x65, x66, x67, x68, x69, x70, x71, x72, x73])), (h1, .inl (aC 0, 5, .inl (fun _ => 0))), (h2, .inl (aC 0, 40, .inl (fun _ => 0))), (h3, .inl (aC 0, 40, .inl (fun _ => 0))), (h4, .inl (aC 3, 40, .inl (fun _ => 0)))] → va_S A s.heap H locs → lv_has ls 4 [(3, .int (nI k)), (0, .ref h0), (1, .int 0), (2, .int 2)] → W p l e (rmL 1 0 0) s m [.ref h0, .int 0, .int 2].toArray below meth c H locs 0 0 (MQ below (QV g (fun (_ : Unit) => True) (fun (_ : Unit) => [(h0, .inr (11, [x0, x1, x2, x3, x4, x5, x6, x7, x8, x9, x10, x11, x12, x13, x14, x15, x16, x17, x18, x19, x20, x21, x22, x23, x24, x25, x26, x27, x28, x29, x30, x31, x32, x33, x34, x35, x36, x37, x38, x39, x40, x41, x42, x43, x44, x45, x46, x47, x48, x49, x50, .ref h1, .ref h2, .ref h3, .ref h4, x55, x56, x57, x58, x59, x60, x61, x62, x63, x64, x65, x66, x67, x68, x69, x70, x71, x72, x73])), (h1, .inl (aC 0, 5, .inl (fun _ => 0))), (h2, .inl (aC 0, 40, .inl (fun _ => 0))), (h3, .inl (aC 0, 40, .inl (fun _ => 0))), (h4, .inl (aC 3, 40, .inl (fun _ => 0)))]) A) [.ref h0, .int 0, .int 2].toArray s 0 0 A) (F0 m 14 ls []) := by
    intro n
    induction n with
    | zero =>
      intro k  H locs ls hk  hP hD hS hl
      obtain rfl : k = 8 := by omega
      have hl : lv_has ls 4 [(3, .int 8), (0, .ref h0), (1, .int 0), (2, .int 2)] := hl
      refine lv_iload_n hx hb dX11_laysSeen_14 rfl (lv_at hl 0 rfl) ?_
      refine lv_bipush (v := 8) hx hb dX11_laysSeen_15 (by decide) ?_
      refine lv_icmp_ge (tgt := 92) hx hb dX11_laysSeen_17 (by decide) (fun _ => ?_) (fun c_ => absurd (by decide +kernel) c_)
      have hP9 := hP.sub (ws' := [(h0, .inr (11, [x0, x1, x2, x3, x4, x5, x6, x7, x8, x9, x10, x11, x12, x13, x14, x15, x16, x17, x18, x19, x20, x21, x22, x23, x24, x25, x26, x27, x28, x29, x30, x31, x32, x33, x34, x35, x36, x37, x38, x39, x40, x41, x42, x43, x44, x45, x46, x47, x48, x49, x50, .ref h1, .ref h2, .ref h3, .ref h4, x55, x56, x57, x58, x59, x60, x61, x62, x63, x64, x65, x66, x67, x68, x69, x70, x71, x72, x73])), (h1, .inl (aC 0, 5, .inl (fun _ => 0))), (h2, .inl (aC 0, 40, .inl (fun _ => 0))), (h3, .inl (aC 0, 40, .inl (fun _ => 0))), (h4, .inl (aC 3, 40, .inl (fun _ => 0)))]) [0, 1, 2, 3, 4] rfl
      have hD9 := hD.sub (ws' := [(h0, .inr (11, [x0, x1, x2, x3, x4, x5, x6, x7, x8, x9, x10, x11, x12, x13, x14, x15, x16, x17, x18, x19, x20, x21, x22, x23, x24, x25, x26, x27, x28, x29, x30, x31, x32, x33, x34, x35, x36, x37, x38, x39, x40, x41, x42, x43, x44, x45, x46, x47, x48, x49, x50, .ref h1, .ref h2, .ref h3, .ref h4, x55, x56, x57, x58, x59, x60, x61, x62, x63, x64, x65, x66, x67, x68, x69, x70, x71, x72, x73])), (h1, .inl (aC 0, 5, .inl (fun _ => 0))), (h2, .inl (aC 0, 40, .inl (fun _ => 0))), (h3, .inl (aC 0, 40, .inl (fun _ => 0))), (h4, .inl (aC 3, 40, .inl (fun _ => 0)))]) [0, 1, 2, 3, 4] (by decide) rfl
      exact rV () hx hb hr hlk hS trivial hP9 hD9 (Nat.le_of_ble_eq_true rfl) (Nat.le_of_ble_eq_true rfl) dX11_laysSeen_92
    | succ n ih =>
      intro k  H locs ls hk  hP hD hS hl
      have hk2 : k < 8 := by omega
      refine lv_iload_n hx hb dX11_laysSeen_14 rfl (lv_at hl 0 rfl) ?_
      refine lv_bipush (v := 8) hx hb dX11_laysSeen_15 (by decide) ?_
      refine lv_icmp_ge (tgt := 92) hx hb dX11_laysSeen_17 (by decide) (fun c_ => absurd c_ (show ¬ (nI 8 ≤ nI k) by rw [nI_leI (by omega) (by omega)]; omega)) (fun _ => ?_)
      refine lv_aload_n hx hb dX11_laysSeen_20 rfl (lv_at hl 1 rfl) ?_
      refine xget F hP 0 rfl rfl inX11 52 (by decide) tb1234 rfl dX11_laysSeen_21 ?_
      refine lv_bipush (v := 8) hx hb dX11_laysSeen_24 (by decide) ?_
      refine lv_iload_n hx hb dX11_laysSeen_26 rfl (lv_at hl 3 rfl) ?_
      refine lv_imul hx hb dX11_laysSeen_27 ?_
      refine relit (v := 16) (by decide +kernel) ?_
      refine lv_iload_n hx hb dX11_laysSeen_28 rfl (lv_at hl 0 rfl) ?_
      refine lv_iadd hx hb dX11_laysSeen_29 ?_
      refine relit (v := (nI (k + 16))) (nadd (a := 16) (b := k) (by omega)) ?_
      refine lv_aload_n hx hb dX11_laysSeen_30 rfl (lv_at hl 1 rfl) ?_
      refine xget F hP 0 rfl rfl inX11 52 (by decide) tb1234 rfl dX11_laysSeen_31 ?_
      refine lv_bipush (v := 8) hx hb dX11_laysSeen_34 (by decide) ?_
      refine lv_iload_n hx hb dX11_laysSeen_36 rfl (lv_at hl 2 rfl) ?_
      refine lv_imul hx hb dX11_laysSeen_37 ?_
      refine relit (v := 0) (by decide +kernel) ?_
      refine lv_iload_n hx hb dX11_laysSeen_38 rfl (lv_at hl 0 rfl) ?_
      refine lv_iadd hx hb dX11_laysSeen_39 ?_
      refine relit (v := (nI k)) (nadd (a := 0) (b := k) (by omega)) ?_
      refine xilo (v := 0) F hP 2 rfl k (nI_pos (by omega)) (nI_clamp (by omega)) (by omega) rfl dX11_laysSeen_40 ?_
      refine xist (f' := fun _ => 0) F hP hD hS 2 rfl (k + 16) (nI_pos (by omega)) (nI_clamp (by omega)) (by omega) (xup0 _) dX11_laysSeen_41 (fun H locs hP hD hS => ?_)
      have hP : va_P g vwCl [(h0, .inr (11, [x0, x1, x2, x3, x4, x5, x6, x7, x8, x9, x10, x11, x12, x13, x14, x15, x16, x17, x18, x19, x20, x21, x22, x23, x24, x25, x26, x27, x28, x29, x30, x31, x32, x33, x34, x35, x36, x37, x38, x39, x40, x41, x42, x43, x44, x45, x46, x47, x48, x49, x50, .ref h1, .ref h2, .ref h3, .ref h4, x55, x56, x57, x58, x59, x60, x61, x62, x63, x64, x65, x66, x67, x68, x69, x70, x71, x72, x73])), (h1, .inl (aC 0, 5, .inl (fun _ => 0))), (h2, .inl (aC 0, 40, .inl (fun _ => 0))), (h3, .inl (aC 0, 40, .inl (fun _ => 0))), (h4, .inl (aC 3, 40, .inl (fun _ => 0)))] H := hP
      have hD : va_D A [(h0, .inr (11, [x0, x1, x2, x3, x4, x5, x6, x7, x8, x9, x10, x11, x12, x13, x14, x15, x16, x17, x18, x19, x20, x21, x22, x23, x24, x25, x26, x27, x28, x29, x30, x31, x32, x33, x34, x35, x36, x37, x38, x39, x40, x41, x42, x43, x44, x45, x46, x47, x48, x49, x50, .ref h1, .ref h2, .ref h3, .ref h4, x55, x56, x57, x58, x59, x60, x61, x62, x63, x64, x65, x66, x67, x68, x69, x70, x71, x72, x73])), (h1, .inl (aC 0, 5, .inl (fun _ => 0))), (h2, .inl (aC 0, 40, .inl (fun _ => 0))), (h3, .inl (aC 0, 40, .inl (fun _ => 0))), (h4, .inl (aC 3, 40, .inl (fun _ => 0)))] := hD
      refine lv_aload_n hx hb dX11_laysSeen_42 rfl (lv_at hl 1 rfl) ?_
      refine xget F hP 0 rfl rfl inX11 53 (by decide) tb1235 rfl dX11_laysSeen_43 ?_
      refine lv_bipush (v := 8) hx hb dX11_laysSeen_46 (by decide) ?_
      refine lv_iload_n hx hb dX11_laysSeen_48 rfl (lv_at hl 3 rfl) ?_
      refine lv_imul hx hb dX11_laysSeen_49 ?_
      refine relit (v := 16) (by decide +kernel) ?_
      refine lv_iload_n hx hb dX11_laysSeen_50 rfl (lv_at hl 0 rfl) ?_
      refine lv_iadd hx hb dX11_laysSeen_51 ?_
      refine relit (v := (nI (k + 16))) (nadd (a := 16) (b := k) (by omega)) ?_
      refine lv_aload_n hx hb dX11_laysSeen_52 rfl (lv_at hl 1 rfl) ?_
      refine xget F hP 0 rfl rfl inX11 53 (by decide) tb1235 rfl dX11_laysSeen_53 ?_
      refine lv_bipush (v := 8) hx hb dX11_laysSeen_56 (by decide) ?_
      refine lv_iload_n hx hb dX11_laysSeen_58 rfl (lv_at hl 2 rfl) ?_
      refine lv_imul hx hb dX11_laysSeen_59 ?_
      refine relit (v := 0) (by decide +kernel) ?_
      refine lv_iload_n hx hb dX11_laysSeen_60 rfl (lv_at hl 0 rfl) ?_
      refine lv_iadd hx hb dX11_laysSeen_61 ?_
      refine relit (v := (nI k)) (nadd (a := 0) (b := k) (by omega)) ?_
      refine xilo (v := 0) F hP 3 rfl k (nI_pos (by omega)) (nI_clamp (by omega)) (by omega) rfl dX11_laysSeen_62 ?_
      refine xist (f' := fun _ => 0) F hP hD hS 3 rfl (k + 16) (nI_pos (by omega)) (nI_clamp (by omega)) (by omega) (xup0 _) dX11_laysSeen_63 (fun H locs hP hD hS => ?_)
      have hP : va_P g vwCl [(h0, .inr (11, [x0, x1, x2, x3, x4, x5, x6, x7, x8, x9, x10, x11, x12, x13, x14, x15, x16, x17, x18, x19, x20, x21, x22, x23, x24, x25, x26, x27, x28, x29, x30, x31, x32, x33, x34, x35, x36, x37, x38, x39, x40, x41, x42, x43, x44, x45, x46, x47, x48, x49, x50, .ref h1, .ref h2, .ref h3, .ref h4, x55, x56, x57, x58, x59, x60, x61, x62, x63, x64, x65, x66, x67, x68, x69, x70, x71, x72, x73])), (h1, .inl (aC 0, 5, .inl (fun _ => 0))), (h2, .inl (aC 0, 40, .inl (fun _ => 0))), (h3, .inl (aC 0, 40, .inl (fun _ => 0))), (h4, .inl (aC 3, 40, .inl (fun _ => 0)))] H := hP
      have hD : va_D A [(h0, .inr (11, [x0, x1, x2, x3, x4, x5, x6, x7, x8, x9, x10, x11, x12, x13, x14, x15, x16, x17, x18, x19, x20, x21, x22, x23, x24, x25, x26, x27, x28, x29, x30, x31, x32, x33, x34, x35, x36, x37, x38, x39, x40, x41, x42, x43, x44, x45, x46, x47, x48, x49, x50, .ref h1, .ref h2, .ref h3, .ref h4, x55, x56, x57, x58, x59, x60, x61, x62, x63, x64, x65, x66, x67, x68, x69, x70, x71, x72, x73])), (h1, .inl (aC 0, 5, .inl (fun _ => 0))), (h2, .inl (aC 0, 40, .inl (fun _ => 0))), (h3, .inl (aC 0, 40, .inl (fun _ => 0))), (h4, .inl (aC 3, 40, .inl (fun _ => 0)))] := hD
      refine lv_aload_n hx hb dX11_laysSeen_64 rfl (lv_at hl 1 rfl) ?_
      refine xget F hP 0 rfl rfl inX11 54 (by decide) tb1236 rfl dX11_laysSeen_65 ?_
      refine lv_bipush (v := 8) hx hb dX11_laysSeen_68 (by decide) ?_
      refine lv_iload_n hx hb dX11_laysSeen_70 rfl (lv_at hl 3 rfl) ?_
      refine lv_imul hx hb dX11_laysSeen_71 ?_
      refine relit (v := 16) (by decide +kernel) ?_
      refine lv_iload_n hx hb dX11_laysSeen_72 rfl (lv_at hl 0 rfl) ?_
      refine lv_iadd hx hb dX11_laysSeen_73 ?_
      refine relit (v := (nI (k + 16))) (nadd (a := 16) (b := k) (by omega)) ?_
      refine lv_aload_n hx hb dX11_laysSeen_74 rfl (lv_at hl 1 rfl) ?_
      refine xget F hP 0 rfl rfl inX11 54 (by decide) tb1236 rfl dX11_laysSeen_75 ?_
      refine lv_bipush (v := 8) hx hb dX11_laysSeen_78 (by decide) ?_
      refine lv_iload_n hx hb dX11_laysSeen_80 rfl (lv_at hl 2 rfl) ?_
      refine lv_imul hx hb dX11_laysSeen_81 ?_
      refine relit (v := 0) (by decide +kernel) ?_
      refine lv_iload_n hx hb dX11_laysSeen_82 rfl (lv_at hl 0 rfl) ?_
      refine lv_iadd hx hb dX11_laysSeen_83 ?_
      refine relit (v := (nI k)) (nadd (a := 0) (b := k) (by omega)) ?_
      refine xzlo (v := 0) F hP 4 rfl k (nI_pos (by omega)) (nI_clamp (by omega)) (by omega) rfl dX11_laysSeen_84 ?_
      refine xzst (f' := fun _ => 0) F hP hD hS 4 rfl (k + 16) (nI_pos (by omega)) (nI_clamp (by omega)) (by omega) (xz0 _ (by decide +kernel)) dX11_laysSeen_85 (fun H locs hP hD hS => ?_)
      have hP : va_P g vwCl [(h0, .inr (11, [x0, x1, x2, x3, x4, x5, x6, x7, x8, x9, x10, x11, x12, x13, x14, x15, x16, x17, x18, x19, x20, x21, x22, x23, x24, x25, x26, x27, x28, x29, x30, x31, x32, x33, x34, x35, x36, x37, x38, x39, x40, x41, x42, x43, x44, x45, x46, x47, x48, x49, x50, .ref h1, .ref h2, .ref h3, .ref h4, x55, x56, x57, x58, x59, x60, x61, x62, x63, x64, x65, x66, x67, x68, x69, x70, x71, x72, x73])), (h1, .inl (aC 0, 5, .inl (fun _ => 0))), (h2, .inl (aC 0, 40, .inl (fun _ => 0))), (h3, .inl (aC 0, 40, .inl (fun _ => 0))), (h4, .inl (aC 3, 40, .inl (fun _ => 0)))] H := hP
      have hD : va_D A [(h0, .inr (11, [x0, x1, x2, x3, x4, x5, x6, x7, x8, x9, x10, x11, x12, x13, x14, x15, x16, x17, x18, x19, x20, x21, x22, x23, x24, x25, x26, x27, x28, x29, x30, x31, x32, x33, x34, x35, x36, x37, x38, x39, x40, x41, x42, x43, x44, x45, x46, x47, x48, x49, x50, .ref h1, .ref h2, .ref h3, .ref h4, x55, x56, x57, x58, x59, x60, x61, x62, x63, x64, x65, x66, x67, x68, x69, x70, x71, x72, x73])), (h1, .inl (aC 0, 5, .inl (fun _ => 0))), (h2, .inl (aC 0, 40, .inl (fun _ => 0))), (h3, .inl (aC 0, 40, .inl (fun _ => 0))), (h4, .inl (aC 3, 40, .inl (fun _ => 0)))] := hD
      refine lv_iinc (v := (nI (k + 1))) (lv' := [(3, .int (nI (k + 1))), (0, .ref h0), (1, .int 0), (2, .int 2)]) hx hb dX11_laysSeen_86 hl (k := 0) rfl (ninc 1 (by omega)) (by decide) rfl (fun ls hl => ?_)
      refine lv_goto (tgt := 14) hx hb dX11_laysSeen_89 (by decide) ?_
      exact ih (k + 1)  _ _ _ (by omega) (hP.sub [0, 1, 2, 3, 4] rfl) (hD.sub [0, 1, 2, 3, 4] (by decide) rfl) hS (lv_sub hl [0, 1, 2, 3] rfl)
  exact hloop14 8 0  _ _ _ (by omega) hP hD hS hl

set_option maxHeartbeats 4000000 in
set_option maxRecDepth 100000 in
theorem k_laysLines_0_3 (l : Launch) (g : va_G) (aC : Nat → ClassId) (aM : Nat → Nat) (h0 h1 h2 h3 h4 h5 : Nat) (x0 x1 x2 x3 x4 x5 x6 x7 x8 x9 x10 x11 x12 x13 x14 x15 x16 x17 x18 x19 x20 x21 x22 x23 x24 x25 x26 x27 x28 x29 x30 x31 x32 x33 x34 x35 x36 x37 x38 x39 x40 x41 x42 x43 x44 x45 x51 x52 x53 x54 x55 x56 x57 x58 x59 x60 x61 x62 x63 x64 x65 x66 x67 x68 x69 x70 x71 x72 x73 : Value) : Ct l g aC aM yX11_laysLines cX11_laysLines 4 none 1 [.ref h0, .int 0, .int 3] [(h0, .inr (11, [x0, x1, x2, x3, x4, x5, x6, x7, x8, x9, x10, x11, x12, x13, x14, x15, x16, x17, x18, x19, x20, x21, x22, x23, x24, x25, x26, x27, x28, x29, x30, x31, x32, x33, x34, x35, x36, x37, x38, x39, x40, x41, x42, x43, x44, x45, .ref h1, .ref h2, .ref h3, .ref h4, .ref h5, x51, x52, x53, x54, x55, x56, x57, x58, x59, x60, x61, x62, x63, x64, x65, x66, x67, x68, x69, x70, x71, x72, x73])), (h1, .inl (aC 0, 6, .inl (fun _ => 0))), (h2, .inl (aC 0, 240, .inl (fun _ => 0))), (h3, .inl (aC 0, 240, .inl (fun _ => 0))), (h4, .inl (aC 0, 240, .inl (fun _ => 0))), (h5, .inl (aC 0, 240, .inl (fun _ => 0)))] (QV g (fun (_ : Unit) => True) (fun (_ : Unit) => [(h0, .inr (11, [x0, x1, x2, x3, x4, x5, x6, x7, x8, x9, x10, x11, x12, x13, x14, x15, x16, x17, x18, x19, x20, x21, x22, x23, x24, x25, x26, x27, x28, x29, x30, x31, x32, x33, x34, x35, x36, x37, x38, x39, x40, x41, x42, x43, x44, x45, .ref h1, .ref h2, .ref h3, .ref h4, .ref h5, x51, x52, x53, x54, x55, x56, x57, x58, x59, x60, x61, x62, x63, x64, x65, x66, x67, x68, x69, x70, x71, x72, x73])), (h1, .inl (aC 0, 6, .inl (fun _ => 0))), (h2, .inl (aC 0, 240, .inl (fun _ => 0))), (h3, .inl (aC 0, 240, .inl (fun _ => 0))), (h4, .inl (aC 0, 240, .inl (fun _ => 0))), (h5, .inl (aC 0, 240, .inl (fun _ => 0)))])) 0 0 := by
  refine Ct.mk (by decide) (Nat.le_of_ble_eq_true rfl) ?_
  intro p e s m below meth c A ls hx hb hml hown hts hr hlk hnm hK hA hM hM2 hP hD hS hl
  have hown : s.vm.findClass RX11 = some m.cls := hown
  have F : Fx p s m _ c cX11_laysLines 4 RX11 g aC aM A := ⟨hx, hb, hml, hown, hts, hK, hA, hM, hM2⟩
  have hl : lv_has ls 4 [(0, .ref h0), (1, .int 0), (2, .int 3)] := hl
  refine lv_aload_n hx hb dX11_laysLines_0 rfl (lv_at hl 0 rfl) ?_
  refine xget F hP 0 rfl rfl inX11 46 (by decide) tb1228 rfl dX11_laysLines_1 ?_
  refine lv_iload_n hx hb dX11_laysLines_4 rfl (lv_at hl 2 rfl) ?_
  refine lv_aload_n hx hb dX11_laysLines_5 rfl (lv_at hl 0 rfl) ?_
  refine xget F hP 0 rfl rfl inX11 46 (by decide) tb1228 rfl dX11_laysLines_6 ?_
  refine lv_iload_n hx hb dX11_laysLines_9 rfl (lv_at hl 1 rfl) ?_
  refine xilo (v := 0) F hP 1 rfl 0 (by decide +kernel) (by decide +kernel) (by decide) (by decide +kernel) dX11_laysLines_10 ?_
  refine xist (f' := fun _ => 0) F hP hD hS 1 rfl 3 (by decide +kernel) (by decide +kernel) (by decide) (xup0 _) dX11_laysLines_11 (fun H locs hP hD hS => ?_)
  have hP : va_P g vwCl [(h0, .inr (11, [x0, x1, x2, x3, x4, x5, x6, x7, x8, x9, x10, x11, x12, x13, x14, x15, x16, x17, x18, x19, x20, x21, x22, x23, x24, x25, x26, x27, x28, x29, x30, x31, x32, x33, x34, x35, x36, x37, x38, x39, x40, x41, x42, x43, x44, x45, .ref h1, .ref h2, .ref h3, .ref h4, .ref h5, x51, x52, x53, x54, x55, x56, x57, x58, x59, x60, x61, x62, x63, x64, x65, x66, x67, x68, x69, x70, x71, x72, x73])), (h1, .inl (aC 0, 6, .inl (fun _ => 0))), (h2, .inl (aC 0, 240, .inl (fun _ => 0))), (h3, .inl (aC 0, 240, .inl (fun _ => 0))), (h4, .inl (aC 0, 240, .inl (fun _ => 0))), (h5, .inl (aC 0, 240, .inl (fun _ => 0)))] H := hP
  have hD : va_D A [(h0, .inr (11, [x0, x1, x2, x3, x4, x5, x6, x7, x8, x9, x10, x11, x12, x13, x14, x15, x16, x17, x18, x19, x20, x21, x22, x23, x24, x25, x26, x27, x28, x29, x30, x31, x32, x33, x34, x35, x36, x37, x38, x39, x40, x41, x42, x43, x44, x45, .ref h1, .ref h2, .ref h3, .ref h4, .ref h5, x51, x52, x53, x54, x55, x56, x57, x58, x59, x60, x61, x62, x63, x64, x65, x66, x67, x68, x69, x70, x71, x72, x73])), (h1, .inl (aC 0, 6, .inl (fun _ => 0))), (h2, .inl (aC 0, 240, .inl (fun _ => 0))), (h3, .inl (aC 0, 240, .inl (fun _ => 0))), (h4, .inl (aC 0, 240, .inl (fun _ => 0))), (h5, .inl (aC 0, 240, .inl (fun _ => 0)))] := hD
  refine lv_iconst (v := 0) hx hb dX11_laysLines_12 (by decide) ?_
  refine lv_istore_n (lv' := [(3, .int 0), (0, .ref h0), (1, .int 0), (2, .int 3)]) hx hb dX11_laysLines_13 rfl hl (by decide) rfl (fun ls hl => ?_)
  refine W.widen (k := 0) (n := 0) (Nat.le_of_ble_eq_true rfl) (Nat.le_of_ble_eq_true rfl) ?_
  have hloop14 : ∀ (n k : Nat) (H : Heap) (locs : List Loc) (ls : Array Slot), k + n = 40 → va_P g vwCl [(h0, .inr (11, [x0, x1, x2, x3, x4, x5, x6, x7, x8, x9, x10, x11, x12, x13, x14, x15, x16, x17, x18, x19, x20, x21, x22, x23, x24, x25, x26, x27, x28, x29, x30, x31, x32, x33, x34, x35, x36, x37, x38, x39, x40, x41, x42, x43, x44, x45, .ref h1, .ref h2, .ref h3, .ref h4, .ref h5, x51, x52, x53, x54, x55, x56, x57, x58, x59, x60, x61, x62, x63, x64, x65, x66, x67, x68, x69, x70, x71, x72, x73])), (h1, .inl (aC 0, 6, .inl (fun _ => 0))), (h2, .inl (aC 0, 240, .inl (fun _ => 0))), (h3, .inl (aC 0, 240, .inl (fun _ => 0))), (h4, .inl (aC 0, 240, .inl (fun _ => 0))), (h5, .inl (aC 0, 240, .inl (fun _ => 0)))] H → va_D A [(h0, .inr (11, [x0, x1, x2, x3, x4, x5, x6, x7, x8, x9, x10, x11, x12, x13, x14, x15, x16, x17, x18, x19, x20, x21, x22, x23, x24, x25, x26, x27, x28, x29, x30, x31, x32, x33, x34, x35, x36, x37, x38, x39, x40, x41, x42, x43, x44, x45, .ref h1, .ref h2, .ref h3, .ref h4, .ref h5, x51, x52, x53, x54, x55, x56, x57, x58, x59, x60, x61, x62, x63, x64, x65, x66, x67, x68, x69, x70, x71, x72, x73])), (h1, .inl (aC 0, 6, .inl (fun _ => 0))), (h2, .inl (aC 0, 240, .inl (fun _ => 0))), (h3, .inl (aC 0, 240, .inl (fun _ => 0))), (h4, .inl (aC 0, 240, .inl (fun _ => 0))), (h5, .inl (aC 0, 240, .inl (fun _ => 0)))] → va_S A s.heap H locs → lv_has ls 4 [(3, .int (nI k)), (0, .ref h0), (1, .int 0), (2, .int 3)] → W p l e (rmL 1 0 0) s m [.ref h0, .int 0, .int 3].toArray below meth c H locs 0 0 (MQ below (QV g (fun (_ : Unit) => True) (fun (_ : Unit) => [(h0, .inr (11, [x0, x1, x2, x3, x4, x5, x6, x7, x8, x9, x10, x11, x12, x13, x14, x15, x16, x17, x18, x19, x20, x21, x22, x23, x24, x25, x26, x27, x28, x29, x30, x31, x32, x33, x34, x35, x36, x37, x38, x39, x40, x41, x42, x43, x44, x45, .ref h1, .ref h2, .ref h3, .ref h4, .ref h5, x51, x52, x53, x54, x55, x56, x57, x58, x59, x60, x61, x62, x63, x64, x65, x66, x67, x68, x69, x70, x71, x72, x73])), (h1, .inl (aC 0, 6, .inl (fun _ => 0))), (h2, .inl (aC 0, 240, .inl (fun _ => 0))), (h3, .inl (aC 0, 240, .inl (fun _ => 0))), (h4, .inl (aC 0, 240, .inl (fun _ => 0))), (h5, .inl (aC 0, 240, .inl (fun _ => 0)))]) A) [.ref h0, .int 0, .int 3].toArray s 0 0 A) (F0 m 14 ls []) := by
    intro n
    induction n with
    | zero =>
      intro k  H locs ls hk  hP hD hS hl
      obtain rfl : k = 40 := by omega
      have hl : lv_has ls 4 [(3, .int 40), (0, .ref h0), (1, .int 0), (2, .int 3)] := hl
      refine lv_iload_n hx hb dX11_laysLines_14 rfl (lv_at hl 0 rfl) ?_
      refine lv_bipush (v := 40) hx hb dX11_laysLines_15 (by decide) ?_
      refine lv_icmp_ge (tgt := 114) hx hb dX11_laysLines_17 (by decide) (fun _ => ?_) (fun c_ => absurd (by decide +kernel) c_)
      have hP9 := hP.sub (ws' := [(h0, .inr (11, [x0, x1, x2, x3, x4, x5, x6, x7, x8, x9, x10, x11, x12, x13, x14, x15, x16, x17, x18, x19, x20, x21, x22, x23, x24, x25, x26, x27, x28, x29, x30, x31, x32, x33, x34, x35, x36, x37, x38, x39, x40, x41, x42, x43, x44, x45, .ref h1, .ref h2, .ref h3, .ref h4, .ref h5, x51, x52, x53, x54, x55, x56, x57, x58, x59, x60, x61, x62, x63, x64, x65, x66, x67, x68, x69, x70, x71, x72, x73])), (h1, .inl (aC 0, 6, .inl (fun _ => 0))), (h2, .inl (aC 0, 240, .inl (fun _ => 0))), (h3, .inl (aC 0, 240, .inl (fun _ => 0))), (h4, .inl (aC 0, 240, .inl (fun _ => 0))), (h5, .inl (aC 0, 240, .inl (fun _ => 0)))]) [0, 1, 2, 3, 4, 5] rfl
      have hD9 := hD.sub (ws' := [(h0, .inr (11, [x0, x1, x2, x3, x4, x5, x6, x7, x8, x9, x10, x11, x12, x13, x14, x15, x16, x17, x18, x19, x20, x21, x22, x23, x24, x25, x26, x27, x28, x29, x30, x31, x32, x33, x34, x35, x36, x37, x38, x39, x40, x41, x42, x43, x44, x45, .ref h1, .ref h2, .ref h3, .ref h4, .ref h5, x51, x52, x53, x54, x55, x56, x57, x58, x59, x60, x61, x62, x63, x64, x65, x66, x67, x68, x69, x70, x71, x72, x73])), (h1, .inl (aC 0, 6, .inl (fun _ => 0))), (h2, .inl (aC 0, 240, .inl (fun _ => 0))), (h3, .inl (aC 0, 240, .inl (fun _ => 0))), (h4, .inl (aC 0, 240, .inl (fun _ => 0))), (h5, .inl (aC 0, 240, .inl (fun _ => 0)))]) [0, 1, 2, 3, 4, 5] (by decide) rfl
      exact rV () hx hb hr hlk hS trivial hP9 hD9 (Nat.le_of_ble_eq_true rfl) (Nat.le_of_ble_eq_true rfl) dX11_laysLines_114
    | succ n ih =>
      intro k  H locs ls hk  hP hD hS hl
      have hk2 : k < 40 := by omega
      refine lv_iload_n hx hb dX11_laysLines_14 rfl (lv_at hl 0 rfl) ?_
      refine lv_bipush (v := 40) hx hb dX11_laysLines_15 (by decide) ?_
      refine lv_icmp_ge (tgt := 114) hx hb dX11_laysLines_17 (by decide) (fun c_ => absurd c_ (show ¬ (nI 40 ≤ nI k) by rw [nI_leI (by omega) (by omega)]; omega)) (fun _ => ?_)
      refine lv_aload_n hx hb dX11_laysLines_20 rfl (lv_at hl 1 rfl) ?_
      refine xget F hP 0 rfl rfl inX11 47 (by decide) tb1229 rfl dX11_laysLines_21 ?_
      refine lv_bipush (v := 40) hx hb dX11_laysLines_24 (by decide) ?_
      refine lv_iload_n hx hb dX11_laysLines_26 rfl (lv_at hl 3 rfl) ?_
      refine lv_imul hx hb dX11_laysLines_27 ?_
      refine relit (v := 120) (by decide +kernel) ?_
      refine lv_iload_n hx hb dX11_laysLines_28 rfl (lv_at hl 0 rfl) ?_
      refine lv_iadd hx hb dX11_laysLines_29 ?_
      refine relit (v := (nI (k + 120))) (nadd (a := 120) (b := k) (by omega)) ?_
      refine lv_aload_n hx hb dX11_laysLines_30 rfl (lv_at hl 1 rfl) ?_
      refine xget F hP 0 rfl rfl inX11 47 (by decide) tb1229 rfl dX11_laysLines_31 ?_
      refine lv_bipush (v := 40) hx hb dX11_laysLines_34 (by decide) ?_
      refine lv_iload_n hx hb dX11_laysLines_36 rfl (lv_at hl 2 rfl) ?_
      refine lv_imul hx hb dX11_laysLines_37 ?_
      refine relit (v := 0) (by decide +kernel) ?_
      refine lv_iload_n hx hb dX11_laysLines_38 rfl (lv_at hl 0 rfl) ?_
      refine lv_iadd hx hb dX11_laysLines_39 ?_
      refine relit (v := (nI k)) (nadd (a := 0) (b := k) (by omega)) ?_
      refine xilo (v := 0) F hP 2 rfl k (nI_pos (by omega)) (nI_clamp (by omega)) (by omega) rfl dX11_laysLines_40 ?_
      refine xist (f' := fun _ => 0) F hP hD hS 2 rfl (k + 120) (nI_pos (by omega)) (nI_clamp (by omega)) (by omega) (xup0 _) dX11_laysLines_41 (fun H locs hP hD hS => ?_)
      have hP : va_P g vwCl [(h0, .inr (11, [x0, x1, x2, x3, x4, x5, x6, x7, x8, x9, x10, x11, x12, x13, x14, x15, x16, x17, x18, x19, x20, x21, x22, x23, x24, x25, x26, x27, x28, x29, x30, x31, x32, x33, x34, x35, x36, x37, x38, x39, x40, x41, x42, x43, x44, x45, .ref h1, .ref h2, .ref h3, .ref h4, .ref h5, x51, x52, x53, x54, x55, x56, x57, x58, x59, x60, x61, x62, x63, x64, x65, x66, x67, x68, x69, x70, x71, x72, x73])), (h1, .inl (aC 0, 6, .inl (fun _ => 0))), (h2, .inl (aC 0, 240, .inl (fun _ => 0))), (h3, .inl (aC 0, 240, .inl (fun _ => 0))), (h4, .inl (aC 0, 240, .inl (fun _ => 0))), (h5, .inl (aC 0, 240, .inl (fun _ => 0)))] H := hP
      have hD : va_D A [(h0, .inr (11, [x0, x1, x2, x3, x4, x5, x6, x7, x8, x9, x10, x11, x12, x13, x14, x15, x16, x17, x18, x19, x20, x21, x22, x23, x24, x25, x26, x27, x28, x29, x30, x31, x32, x33, x34, x35, x36, x37, x38, x39, x40, x41, x42, x43, x44, x45, .ref h1, .ref h2, .ref h3, .ref h4, .ref h5, x51, x52, x53, x54, x55, x56, x57, x58, x59, x60, x61, x62, x63, x64, x65, x66, x67, x68, x69, x70, x71, x72, x73])), (h1, .inl (aC 0, 6, .inl (fun _ => 0))), (h2, .inl (aC 0, 240, .inl (fun _ => 0))), (h3, .inl (aC 0, 240, .inl (fun _ => 0))), (h4, .inl (aC 0, 240, .inl (fun _ => 0))), (h5, .inl (aC 0, 240, .inl (fun _ => 0)))] := hD
      refine lv_aload_n hx hb dX11_laysLines_42 rfl (lv_at hl 1 rfl) ?_
      refine xget F hP 0 rfl rfl inX11 48 (by decide) tb1230 rfl dX11_laysLines_43 ?_
      refine lv_bipush (v := 40) hx hb dX11_laysLines_46 (by decide) ?_
      refine lv_iload_n hx hb dX11_laysLines_48 rfl (lv_at hl 3 rfl) ?_
      refine lv_imul hx hb dX11_laysLines_49 ?_
      refine relit (v := 120) (by decide +kernel) ?_
      refine lv_iload_n hx hb dX11_laysLines_50 rfl (lv_at hl 0 rfl) ?_
      refine lv_iadd hx hb dX11_laysLines_51 ?_
      refine relit (v := (nI (k + 120))) (nadd (a := 120) (b := k) (by omega)) ?_
      refine lv_aload_n hx hb dX11_laysLines_52 rfl (lv_at hl 1 rfl) ?_
      refine xget F hP 0 rfl rfl inX11 48 (by decide) tb1230 rfl dX11_laysLines_53 ?_
      refine lv_bipush (v := 40) hx hb dX11_laysLines_56 (by decide) ?_
      refine lv_iload_n hx hb dX11_laysLines_58 rfl (lv_at hl 2 rfl) ?_
      refine lv_imul hx hb dX11_laysLines_59 ?_
      refine relit (v := 0) (by decide +kernel) ?_
      refine lv_iload_n hx hb dX11_laysLines_60 rfl (lv_at hl 0 rfl) ?_
      refine lv_iadd hx hb dX11_laysLines_61 ?_
      refine relit (v := (nI k)) (nadd (a := 0) (b := k) (by omega)) ?_
      refine xilo (v := 0) F hP 3 rfl k (nI_pos (by omega)) (nI_clamp (by omega)) (by omega) rfl dX11_laysLines_62 ?_
      refine xist (f' := fun _ => 0) F hP hD hS 3 rfl (k + 120) (nI_pos (by omega)) (nI_clamp (by omega)) (by omega) (xup0 _) dX11_laysLines_63 (fun H locs hP hD hS => ?_)
      have hP : va_P g vwCl [(h0, .inr (11, [x0, x1, x2, x3, x4, x5, x6, x7, x8, x9, x10, x11, x12, x13, x14, x15, x16, x17, x18, x19, x20, x21, x22, x23, x24, x25, x26, x27, x28, x29, x30, x31, x32, x33, x34, x35, x36, x37, x38, x39, x40, x41, x42, x43, x44, x45, .ref h1, .ref h2, .ref h3, .ref h4, .ref h5, x51, x52, x53, x54, x55, x56, x57, x58, x59, x60, x61, x62, x63, x64, x65, x66, x67, x68, x69, x70, x71, x72, x73])), (h1, .inl (aC 0, 6, .inl (fun _ => 0))), (h2, .inl (aC 0, 240, .inl (fun _ => 0))), (h3, .inl (aC 0, 240, .inl (fun _ => 0))), (h4, .inl (aC 0, 240, .inl (fun _ => 0))), (h5, .inl (aC 0, 240, .inl (fun _ => 0)))] H := hP
      have hD : va_D A [(h0, .inr (11, [x0, x1, x2, x3, x4, x5, x6, x7, x8, x9, x10, x11, x12, x13, x14, x15, x16, x17, x18, x19, x20, x21, x22, x23, x24, x25, x26, x27, x28, x29, x30, x31, x32, x33, x34, x35, x36, x37, x38, x39, x40, x41, x42, x43, x44, x45, .ref h1, .ref h2, .ref h3, .ref h4, .ref h5, x51, x52, x53, x54, x55, x56, x57, x58, x59, x60, x61, x62, x63, x64, x65, x66, x67, x68, x69, x70, x71, x72, x73])), (h1, .inl (aC 0, 6, .inl (fun _ => 0))), (h2, .inl (aC 0, 240, .inl (fun _ => 0))), (h3, .inl (aC 0, 240, .inl (fun _ => 0))), (h4, .inl (aC 0, 240, .inl (fun _ => 0))), (h5, .inl (aC 0, 240, .inl (fun _ => 0)))] := hD
      refine lv_aload_n hx hb dX11_laysLines_64 rfl (lv_at hl 1 rfl) ?_
      refine xget F hP 0 rfl rfl inX11 49 (by decide) tb1231 rfl dX11_laysLines_65 ?_
      refine lv_bipush (v := 40) hx hb dX11_laysLines_68 (by decide) ?_
      refine lv_iload_n hx hb dX11_laysLines_70 rfl (lv_at hl 3 rfl) ?_
      refine lv_imul hx hb dX11_laysLines_71 ?_
      refine relit (v := 120) (by decide +kernel) ?_
      refine lv_iload_n hx hb dX11_laysLines_72 rfl (lv_at hl 0 rfl) ?_
      refine lv_iadd hx hb dX11_laysLines_73 ?_
      refine relit (v := (nI (k + 120))) (nadd (a := 120) (b := k) (by omega)) ?_
      refine lv_aload_n hx hb dX11_laysLines_74 rfl (lv_at hl 1 rfl) ?_
      refine xget F hP 0 rfl rfl inX11 49 (by decide) tb1231 rfl dX11_laysLines_75 ?_
      refine lv_bipush (v := 40) hx hb dX11_laysLines_78 (by decide) ?_
      refine lv_iload_n hx hb dX11_laysLines_80 rfl (lv_at hl 2 rfl) ?_
      refine lv_imul hx hb dX11_laysLines_81 ?_
      refine relit (v := 0) (by decide +kernel) ?_
      refine lv_iload_n hx hb dX11_laysLines_82 rfl (lv_at hl 0 rfl) ?_
      refine lv_iadd hx hb dX11_laysLines_83 ?_
      refine relit (v := (nI k)) (nadd (a := 0) (b := k) (by omega)) ?_
      refine xilo (v := 0) F hP 4 rfl k (nI_pos (by omega)) (nI_clamp (by omega)) (by omega) rfl dX11_laysLines_84 ?_
      refine xist (f' := fun _ => 0) F hP hD hS 4 rfl (k + 120) (nI_pos (by omega)) (nI_clamp (by omega)) (by omega) (xup0 _) dX11_laysLines_85 (fun H locs hP hD hS => ?_)
      have hP : va_P g vwCl [(h0, .inr (11, [x0, x1, x2, x3, x4, x5, x6, x7, x8, x9, x10, x11, x12, x13, x14, x15, x16, x17, x18, x19, x20, x21, x22, x23, x24, x25, x26, x27, x28, x29, x30, x31, x32, x33, x34, x35, x36, x37, x38, x39, x40, x41, x42, x43, x44, x45, .ref h1, .ref h2, .ref h3, .ref h4, .ref h5, x51, x52, x53, x54, x55, x56, x57, x58, x59, x60, x61, x62, x63, x64, x65, x66, x67, x68, x69, x70, x71, x72, x73])), (h1, .inl (aC 0, 6, .inl (fun _ => 0))), (h2, .inl (aC 0, 240, .inl (fun _ => 0))), (h3, .inl (aC 0, 240, .inl (fun _ => 0))), (h4, .inl (aC 0, 240, .inl (fun _ => 0))), (h5, .inl (aC 0, 240, .inl (fun _ => 0)))] H := hP
      have hD : va_D A [(h0, .inr (11, [x0, x1, x2, x3, x4, x5, x6, x7, x8, x9, x10, x11, x12, x13, x14, x15, x16, x17, x18, x19, x20, x21, x22, x23, x24, x25, x26, x27, x28, x29, x30, x31, x32, x33, x34, x35, x36, x37, x38, x39, x40, x41, x42, x43, x44, x45, .ref h1, .ref h2, .ref h3, .ref h4, .ref h5, x51, x52, x53, x54, x55, x56, x57, x58, x59, x60, x61, x62, x63, x64, x65, x66, x67, x68, x69, x70, x71, x72, x73])), (h1, .inl (aC 0, 6, .inl (fun _ => 0))), (h2, .inl (aC 0, 240, .inl (fun _ => 0))), (h3, .inl (aC 0, 240, .inl (fun _ => 0))), (h4, .inl (aC 0, 240, .inl (fun _ => 0))), (h5, .inl (aC 0, 240, .inl (fun _ => 0)))] := hD
      refine lv_aload_n hx hb dX11_laysLines_86 rfl (lv_at hl 1 rfl) ?_
      refine xget F hP 0 rfl rfl inX11 50 (by decide) tb1232 rfl dX11_laysLines_87 ?_
      refine lv_bipush (v := 40) hx hb dX11_laysLines_90 (by decide) ?_
      refine lv_iload_n hx hb dX11_laysLines_92 rfl (lv_at hl 3 rfl) ?_
      refine lv_imul hx hb dX11_laysLines_93 ?_
      refine relit (v := 120) (by decide +kernel) ?_
      refine lv_iload_n hx hb dX11_laysLines_94 rfl (lv_at hl 0 rfl) ?_
      refine lv_iadd hx hb dX11_laysLines_95 ?_
      refine relit (v := (nI (k + 120))) (nadd (a := 120) (b := k) (by omega)) ?_
      refine lv_aload_n hx hb dX11_laysLines_96 rfl (lv_at hl 1 rfl) ?_
      refine xget F hP 0 rfl rfl inX11 50 (by decide) tb1232 rfl dX11_laysLines_97 ?_
      refine lv_bipush (v := 40) hx hb dX11_laysLines_100 (by decide) ?_
      refine lv_iload_n hx hb dX11_laysLines_102 rfl (lv_at hl 2 rfl) ?_
      refine lv_imul hx hb dX11_laysLines_103 ?_
      refine relit (v := 0) (by decide +kernel) ?_
      refine lv_iload_n hx hb dX11_laysLines_104 rfl (lv_at hl 0 rfl) ?_
      refine lv_iadd hx hb dX11_laysLines_105 ?_
      refine relit (v := (nI k)) (nadd (a := 0) (b := k) (by omega)) ?_
      refine xilo (v := 0) F hP 5 rfl k (nI_pos (by omega)) (nI_clamp (by omega)) (by omega) rfl dX11_laysLines_106 ?_
      refine xist (f' := fun _ => 0) F hP hD hS 5 rfl (k + 120) (nI_pos (by omega)) (nI_clamp (by omega)) (by omega) (xup0 _) dX11_laysLines_107 (fun H locs hP hD hS => ?_)
      have hP : va_P g vwCl [(h0, .inr (11, [x0, x1, x2, x3, x4, x5, x6, x7, x8, x9, x10, x11, x12, x13, x14, x15, x16, x17, x18, x19, x20, x21, x22, x23, x24, x25, x26, x27, x28, x29, x30, x31, x32, x33, x34, x35, x36, x37, x38, x39, x40, x41, x42, x43, x44, x45, .ref h1, .ref h2, .ref h3, .ref h4, .ref h5, x51, x52, x53, x54, x55, x56, x57, x58, x59, x60, x61, x62, x63, x64, x65, x66, x67, x68, x69, x70, x71, x72, x73])), (h1, .inl (aC 0, 6, .inl (fun _ => 0))), (h2, .inl (aC 0, 240, .inl (fun _ => 0))), (h3, .inl (aC 0, 240, .inl (fun _ => 0))), (h4, .inl (aC 0, 240, .inl (fun _ => 0))), (h5, .inl (aC 0, 240, .inl (fun _ => 0)))] H := hP
      have hD : va_D A [(h0, .inr (11, [x0, x1, x2, x3, x4, x5, x6, x7, x8, x9, x10, x11, x12, x13, x14, x15, x16, x17, x18, x19, x20, x21, x22, x23, x24, x25, x26, x27, x28, x29, x30, x31, x32, x33, x34, x35, x36, x37, x38, x39, x40, x41, x42, x43, x44, x45, .ref h1, .ref h2, .ref h3, .ref h4, .ref h5, x51, x52, x53, x54, x55, x56, x57, x58, x59, x60, x61, x62, x63, x64, x65, x66, x67, x68, x69, x70, x71, x72, x73])), (h1, .inl (aC 0, 6, .inl (fun _ => 0))), (h2, .inl (aC 0, 240, .inl (fun _ => 0))), (h3, .inl (aC 0, 240, .inl (fun _ => 0))), (h4, .inl (aC 0, 240, .inl (fun _ => 0))), (h5, .inl (aC 0, 240, .inl (fun _ => 0)))] := hD
      refine lv_iinc (v := (nI (k + 1))) (lv' := [(3, .int (nI (k + 1))), (0, .ref h0), (1, .int 0), (2, .int 3)]) hx hb dX11_laysLines_108 hl (k := 0) rfl (ninc 1 (by omega)) (by decide) rfl (fun ls hl => ?_)
      refine lv_goto (tgt := 14) hx hb dX11_laysLines_111 (by decide) ?_
      exact ih (k + 1)  _ _ _ (by omega) (hP.sub [0, 1, 2, 3, 4, 5] rfl) (hD.sub [0, 1, 2, 3, 4, 5] (by decide) rfl) hS (lv_sub hl [0, 1, 2, 3] rfl)
  exact hloop14 40 0  _ _ _ (by omega) hP hD hS hl

set_option maxHeartbeats 4000000 in
set_option maxRecDepth 100000 in
theorem k_laysSeen_0_3 (l : Launch) (g : va_G) (aC : Nat → ClassId) (aM : Nat → Nat) (h0 h1 h2 h3 h4 : Nat) (x0 x1 x2 x3 x4 x5 x6 x7 x8 x9 x10 x11 x12 x13 x14 x15 x16 x17 x18 x19 x20 x21 x22 x23 x24 x25 x26 x27 x28 x29 x30 x31 x32 x33 x34 x35 x36 x37 x38 x39 x40 x41 x42 x43 x44 x45 x46 x47 x48 x49 x50 x55 x56 x57 x58 x59 x60 x61 x62 x63 x64 x65 x66 x67 x68 x69 x70 x71 x72 x73 : Value) : Ct l g aC aM yX11_laysSeen cX11_laysSeen 4 none 1 [.ref h0, .int 0, .int 3] [(h0, .inr (11, [x0, x1, x2, x3, x4, x5, x6, x7, x8, x9, x10, x11, x12, x13, x14, x15, x16, x17, x18, x19, x20, x21, x22, x23, x24, x25, x26, x27, x28, x29, x30, x31, x32, x33, x34, x35, x36, x37, x38, x39, x40, x41, x42, x43, x44, x45, x46, x47, x48, x49, x50, .ref h1, .ref h2, .ref h3, .ref h4, x55, x56, x57, x58, x59, x60, x61, x62, x63, x64, x65, x66, x67, x68, x69, x70, x71, x72, x73])), (h1, .inl (aC 0, 5, .inl (fun _ => 0))), (h2, .inl (aC 0, 40, .inl (fun _ => 0))), (h3, .inl (aC 0, 40, .inl (fun _ => 0))), (h4, .inl (aC 3, 40, .inl (fun _ => 0)))] (QV g (fun (_ : Unit) => True) (fun (_ : Unit) => [(h0, .inr (11, [x0, x1, x2, x3, x4, x5, x6, x7, x8, x9, x10, x11, x12, x13, x14, x15, x16, x17, x18, x19, x20, x21, x22, x23, x24, x25, x26, x27, x28, x29, x30, x31, x32, x33, x34, x35, x36, x37, x38, x39, x40, x41, x42, x43, x44, x45, x46, x47, x48, x49, x50, .ref h1, .ref h2, .ref h3, .ref h4, x55, x56, x57, x58, x59, x60, x61, x62, x63, x64, x65, x66, x67, x68, x69, x70, x71, x72, x73])), (h1, .inl (aC 0, 5, .inl (fun _ => 0))), (h2, .inl (aC 0, 40, .inl (fun _ => 0))), (h3, .inl (aC 0, 40, .inl (fun _ => 0))), (h4, .inl (aC 3, 40, .inl (fun _ => 0)))])) 0 0 := by
  refine Ct.mk (by decide) (Nat.le_of_ble_eq_true rfl) ?_
  intro p e s m below meth c A ls hx hb hml hown hts hr hlk hnm hK hA hM hM2 hP hD hS hl
  have hown : s.vm.findClass RX11 = some m.cls := hown
  have F : Fx p s m _ c cX11_laysSeen 4 RX11 g aC aM A := ⟨hx, hb, hml, hown, hts, hK, hA, hM, hM2⟩
  have hl : lv_has ls 4 [(0, .ref h0), (1, .int 0), (2, .int 3)] := hl
  refine lv_aload_n hx hb dX11_laysSeen_0 rfl (lv_at hl 0 rfl) ?_
  refine xget F hP 0 rfl rfl inX11 51 (by decide) tb1233 rfl dX11_laysSeen_1 ?_
  refine lv_iload_n hx hb dX11_laysSeen_4 rfl (lv_at hl 2 rfl) ?_
  refine lv_aload_n hx hb dX11_laysSeen_5 rfl (lv_at hl 0 rfl) ?_
  refine xget F hP 0 rfl rfl inX11 51 (by decide) tb1233 rfl dX11_laysSeen_6 ?_
  refine lv_iload_n hx hb dX11_laysSeen_9 rfl (lv_at hl 1 rfl) ?_
  refine xilo (v := 0) F hP 1 rfl 0 (by decide +kernel) (by decide +kernel) (by decide) (by decide +kernel) dX11_laysSeen_10 ?_
  refine xist (f' := fun _ => 0) F hP hD hS 1 rfl 3 (by decide +kernel) (by decide +kernel) (by decide) (xup0 _) dX11_laysSeen_11 (fun H locs hP hD hS => ?_)
  have hP : va_P g vwCl [(h0, .inr (11, [x0, x1, x2, x3, x4, x5, x6, x7, x8, x9, x10, x11, x12, x13, x14, x15, x16, x17, x18, x19, x20, x21, x22, x23, x24, x25, x26, x27, x28, x29, x30, x31, x32, x33, x34, x35, x36, x37, x38, x39, x40, x41, x42, x43, x44, x45, x46, x47, x48, x49, x50, .ref h1, .ref h2, .ref h3, .ref h4, x55, x56, x57, x58, x59, x60, x61, x62, x63, x64, x65, x66, x67, x68, x69, x70, x71, x72, x73])), (h1, .inl (aC 0, 5, .inl (fun _ => 0))), (h2, .inl (aC 0, 40, .inl (fun _ => 0))), (h3, .inl (aC 0, 40, .inl (fun _ => 0))), (h4, .inl (aC 3, 40, .inl (fun _ => 0)))] H := hP
  have hD : va_D A [(h0, .inr (11, [x0, x1, x2, x3, x4, x5, x6, x7, x8, x9, x10, x11, x12, x13, x14, x15, x16, x17, x18, x19, x20, x21, x22, x23, x24, x25, x26, x27, x28, x29, x30, x31, x32, x33, x34, x35, x36, x37, x38, x39, x40, x41, x42, x43, x44, x45, x46, x47, x48, x49, x50, .ref h1, .ref h2, .ref h3, .ref h4, x55, x56, x57, x58, x59, x60, x61, x62, x63, x64, x65, x66, x67, x68, x69, x70, x71, x72, x73])), (h1, .inl (aC 0, 5, .inl (fun _ => 0))), (h2, .inl (aC 0, 40, .inl (fun _ => 0))), (h3, .inl (aC 0, 40, .inl (fun _ => 0))), (h4, .inl (aC 3, 40, .inl (fun _ => 0)))] := hD
  refine lv_iconst (v := 0) hx hb dX11_laysSeen_12 (by decide) ?_
  refine lv_istore_n (lv' := [(3, .int 0), (0, .ref h0), (1, .int 0), (2, .int 3)]) hx hb dX11_laysSeen_13 rfl hl (by decide) rfl (fun ls hl => ?_)
  refine W.widen (k := 0) (n := 0) (Nat.le_of_ble_eq_true rfl) (Nat.le_of_ble_eq_true rfl) ?_
  have hloop14 : ∀ (n k : Nat) (H : Heap) (locs : List Loc) (ls : Array Slot), k + n = 8 → va_P g vwCl [(h0, .inr (11, [x0, x1, x2, x3, x4, x5, x6, x7, x8, x9, x10, x11, x12, x13, x14, x15, x16, x17, x18, x19, x20, x21, x22, x23, x24, x25, x26, x27, x28, x29, x30, x31, x32, x33, x34, x35, x36, x37, x38, x39, x40, x41, x42, x43, x44, x45, x46, x47, x48, x49, x50, .ref h1, .ref h2, .ref h3, .ref h4, x55, x56, x57, x58, x59, x60, x61, x62, x63, x64, x65, x66, x67, x68, x69, x70, x71, x72, x73])), (h1, .inl (aC 0, 5, .inl (fun _ => 0))), (h2, .inl (aC 0, 40, .inl (fun _ => 0))), (h3, .inl (aC 0, 40, .inl (fun _ => 0))), (h4, .inl (aC 3, 40, .inl (fun _ => 0)))] H → va_D A [(h0, .inr (11, [x0, x1, x2, x3, x4, x5, x6, x7, x8, x9, x10, x11, x12, x13, x14, x15, x16, x17, x18, x19, x20, x21, x22, x23, x24, x25, x26, x27, x28, x29, x30, x31, x32, x33, x34, x35, x36, x37, x38, x39, x40, x41, x42, x43, x44, x45, x46, x47, x48, x49, x50, .ref h1, .ref h2, .ref h3, .ref h4, x55, x56, x57, x58, x59, x60, x61, x62, x63, x64, x65, x66, x67, x68, x69, x70, x71, x72, x73])), (h1, .inl (aC 0, 5, .inl (fun _ => 0))), (h2, .inl (aC 0, 40, .inl (fun _ => 0))), (h3, .inl (aC 0, 40, .inl (fun _ => 0))), (h4, .inl (aC 3, 40, .inl (fun _ => 0)))] → va_S A s.heap H locs → lv_has ls 4 [(3, .int (nI k)), (0, .ref h0), (1, .int 0), (2, .int 3)] → W p l e (rmL 1 0 0) s m [.ref h0, .int 0, .int 3].toArray below meth c H locs 0 0 (MQ below (QV g (fun (_ : Unit) => True) (fun (_ : Unit) => [(h0, .inr (11, [x0, x1, x2, x3, x4, x5, x6, x7, x8, x9, x10, x11, x12, x13, x14, x15, x16, x17, x18, x19, x20, x21, x22, x23, x24, x25, x26, x27, x28, x29, x30, x31, x32, x33, x34, x35, x36, x37, x38, x39, x40, x41, x42, x43, x44, x45, x46, x47, x48, x49, x50, .ref h1, .ref h2, .ref h3, .ref h4, x55, x56, x57, x58, x59, x60, x61, x62, x63, x64, x65, x66, x67, x68, x69, x70, x71, x72, x73])), (h1, .inl (aC 0, 5, .inl (fun _ => 0))), (h2, .inl (aC 0, 40, .inl (fun _ => 0))), (h3, .inl (aC 0, 40, .inl (fun _ => 0))), (h4, .inl (aC 3, 40, .inl (fun _ => 0)))]) A) [.ref h0, .int 0, .int 3].toArray s 0 0 A) (F0 m 14 ls []) := by
    intro n
    induction n with
    | zero =>
      intro k  H locs ls hk  hP hD hS hl
      obtain rfl : k = 8 := by omega
      have hl : lv_has ls 4 [(3, .int 8), (0, .ref h0), (1, .int 0), (2, .int 3)] := hl
      refine lv_iload_n hx hb dX11_laysSeen_14 rfl (lv_at hl 0 rfl) ?_
      refine lv_bipush (v := 8) hx hb dX11_laysSeen_15 (by decide) ?_
      refine lv_icmp_ge (tgt := 92) hx hb dX11_laysSeen_17 (by decide) (fun _ => ?_) (fun c_ => absurd (by decide +kernel) c_)
      have hP9 := hP.sub (ws' := [(h0, .inr (11, [x0, x1, x2, x3, x4, x5, x6, x7, x8, x9, x10, x11, x12, x13, x14, x15, x16, x17, x18, x19, x20, x21, x22, x23, x24, x25, x26, x27, x28, x29, x30, x31, x32, x33, x34, x35, x36, x37, x38, x39, x40, x41, x42, x43, x44, x45, x46, x47, x48, x49, x50, .ref h1, .ref h2, .ref h3, .ref h4, x55, x56, x57, x58, x59, x60, x61, x62, x63, x64, x65, x66, x67, x68, x69, x70, x71, x72, x73])), (h1, .inl (aC 0, 5, .inl (fun _ => 0))), (h2, .inl (aC 0, 40, .inl (fun _ => 0))), (h3, .inl (aC 0, 40, .inl (fun _ => 0))), (h4, .inl (aC 3, 40, .inl (fun _ => 0)))]) [0, 1, 2, 3, 4] rfl
      have hD9 := hD.sub (ws' := [(h0, .inr (11, [x0, x1, x2, x3, x4, x5, x6, x7, x8, x9, x10, x11, x12, x13, x14, x15, x16, x17, x18, x19, x20, x21, x22, x23, x24, x25, x26, x27, x28, x29, x30, x31, x32, x33, x34, x35, x36, x37, x38, x39, x40, x41, x42, x43, x44, x45, x46, x47, x48, x49, x50, .ref h1, .ref h2, .ref h3, .ref h4, x55, x56, x57, x58, x59, x60, x61, x62, x63, x64, x65, x66, x67, x68, x69, x70, x71, x72, x73])), (h1, .inl (aC 0, 5, .inl (fun _ => 0))), (h2, .inl (aC 0, 40, .inl (fun _ => 0))), (h3, .inl (aC 0, 40, .inl (fun _ => 0))), (h4, .inl (aC 3, 40, .inl (fun _ => 0)))]) [0, 1, 2, 3, 4] (by decide) rfl
      exact rV () hx hb hr hlk hS trivial hP9 hD9 (Nat.le_of_ble_eq_true rfl) (Nat.le_of_ble_eq_true rfl) dX11_laysSeen_92
    | succ n ih =>
      intro k  H locs ls hk  hP hD hS hl
      have hk2 : k < 8 := by omega
      refine lv_iload_n hx hb dX11_laysSeen_14 rfl (lv_at hl 0 rfl) ?_
      refine lv_bipush (v := 8) hx hb dX11_laysSeen_15 (by decide) ?_
      refine lv_icmp_ge (tgt := 92) hx hb dX11_laysSeen_17 (by decide) (fun c_ => absurd c_ (show ¬ (nI 8 ≤ nI k) by rw [nI_leI (by omega) (by omega)]; omega)) (fun _ => ?_)
      refine lv_aload_n hx hb dX11_laysSeen_20 rfl (lv_at hl 1 rfl) ?_
      refine xget F hP 0 rfl rfl inX11 52 (by decide) tb1234 rfl dX11_laysSeen_21 ?_
      refine lv_bipush (v := 8) hx hb dX11_laysSeen_24 (by decide) ?_
      refine lv_iload_n hx hb dX11_laysSeen_26 rfl (lv_at hl 3 rfl) ?_
      refine lv_imul hx hb dX11_laysSeen_27 ?_
      refine relit (v := 24) (by decide +kernel) ?_
      refine lv_iload_n hx hb dX11_laysSeen_28 rfl (lv_at hl 0 rfl) ?_
      refine lv_iadd hx hb dX11_laysSeen_29 ?_
      refine relit (v := (nI (k + 24))) (nadd (a := 24) (b := k) (by omega)) ?_
      refine lv_aload_n hx hb dX11_laysSeen_30 rfl (lv_at hl 1 rfl) ?_
      refine xget F hP 0 rfl rfl inX11 52 (by decide) tb1234 rfl dX11_laysSeen_31 ?_
      refine lv_bipush (v := 8) hx hb dX11_laysSeen_34 (by decide) ?_
      refine lv_iload_n hx hb dX11_laysSeen_36 rfl (lv_at hl 2 rfl) ?_
      refine lv_imul hx hb dX11_laysSeen_37 ?_
      refine relit (v := 0) (by decide +kernel) ?_
      refine lv_iload_n hx hb dX11_laysSeen_38 rfl (lv_at hl 0 rfl) ?_
      refine lv_iadd hx hb dX11_laysSeen_39 ?_
      refine relit (v := (nI k)) (nadd (a := 0) (b := k) (by omega)) ?_
      refine xilo (v := 0) F hP 2 rfl k (nI_pos (by omega)) (nI_clamp (by omega)) (by omega) rfl dX11_laysSeen_40 ?_
      refine xist (f' := fun _ => 0) F hP hD hS 2 rfl (k + 24) (nI_pos (by omega)) (nI_clamp (by omega)) (by omega) (xup0 _) dX11_laysSeen_41 (fun H locs hP hD hS => ?_)
      have hP : va_P g vwCl [(h0, .inr (11, [x0, x1, x2, x3, x4, x5, x6, x7, x8, x9, x10, x11, x12, x13, x14, x15, x16, x17, x18, x19, x20, x21, x22, x23, x24, x25, x26, x27, x28, x29, x30, x31, x32, x33, x34, x35, x36, x37, x38, x39, x40, x41, x42, x43, x44, x45, x46, x47, x48, x49, x50, .ref h1, .ref h2, .ref h3, .ref h4, x55, x56, x57, x58, x59, x60, x61, x62, x63, x64, x65, x66, x67, x68, x69, x70, x71, x72, x73])), (h1, .inl (aC 0, 5, .inl (fun _ => 0))), (h2, .inl (aC 0, 40, .inl (fun _ => 0))), (h3, .inl (aC 0, 40, .inl (fun _ => 0))), (h4, .inl (aC 3, 40, .inl (fun _ => 0)))] H := hP
      have hD : va_D A [(h0, .inr (11, [x0, x1, x2, x3, x4, x5, x6, x7, x8, x9, x10, x11, x12, x13, x14, x15, x16, x17, x18, x19, x20, x21, x22, x23, x24, x25, x26, x27, x28, x29, x30, x31, x32, x33, x34, x35, x36, x37, x38, x39, x40, x41, x42, x43, x44, x45, x46, x47, x48, x49, x50, .ref h1, .ref h2, .ref h3, .ref h4, x55, x56, x57, x58, x59, x60, x61, x62, x63, x64, x65, x66, x67, x68, x69, x70, x71, x72, x73])), (h1, .inl (aC 0, 5, .inl (fun _ => 0))), (h2, .inl (aC 0, 40, .inl (fun _ => 0))), (h3, .inl (aC 0, 40, .inl (fun _ => 0))), (h4, .inl (aC 3, 40, .inl (fun _ => 0)))] := hD
      refine lv_aload_n hx hb dX11_laysSeen_42 rfl (lv_at hl 1 rfl) ?_
      refine xget F hP 0 rfl rfl inX11 53 (by decide) tb1235 rfl dX11_laysSeen_43 ?_
      refine lv_bipush (v := 8) hx hb dX11_laysSeen_46 (by decide) ?_
      refine lv_iload_n hx hb dX11_laysSeen_48 rfl (lv_at hl 3 rfl) ?_
      refine lv_imul hx hb dX11_laysSeen_49 ?_
      refine relit (v := 24) (by decide +kernel) ?_
      refine lv_iload_n hx hb dX11_laysSeen_50 rfl (lv_at hl 0 rfl) ?_
      refine lv_iadd hx hb dX11_laysSeen_51 ?_
      refine relit (v := (nI (k + 24))) (nadd (a := 24) (b := k) (by omega)) ?_
      refine lv_aload_n hx hb dX11_laysSeen_52 rfl (lv_at hl 1 rfl) ?_
      refine xget F hP 0 rfl rfl inX11 53 (by decide) tb1235 rfl dX11_laysSeen_53 ?_
      refine lv_bipush (v := 8) hx hb dX11_laysSeen_56 (by decide) ?_
      refine lv_iload_n hx hb dX11_laysSeen_58 rfl (lv_at hl 2 rfl) ?_
      refine lv_imul hx hb dX11_laysSeen_59 ?_
      refine relit (v := 0) (by decide +kernel) ?_
      refine lv_iload_n hx hb dX11_laysSeen_60 rfl (lv_at hl 0 rfl) ?_
      refine lv_iadd hx hb dX11_laysSeen_61 ?_
      refine relit (v := (nI k)) (nadd (a := 0) (b := k) (by omega)) ?_
      refine xilo (v := 0) F hP 3 rfl k (nI_pos (by omega)) (nI_clamp (by omega)) (by omega) rfl dX11_laysSeen_62 ?_
      refine xist (f' := fun _ => 0) F hP hD hS 3 rfl (k + 24) (nI_pos (by omega)) (nI_clamp (by omega)) (by omega) (xup0 _) dX11_laysSeen_63 (fun H locs hP hD hS => ?_)
      have hP : va_P g vwCl [(h0, .inr (11, [x0, x1, x2, x3, x4, x5, x6, x7, x8, x9, x10, x11, x12, x13, x14, x15, x16, x17, x18, x19, x20, x21, x22, x23, x24, x25, x26, x27, x28, x29, x30, x31, x32, x33, x34, x35, x36, x37, x38, x39, x40, x41, x42, x43, x44, x45, x46, x47, x48, x49, x50, .ref h1, .ref h2, .ref h3, .ref h4, x55, x56, x57, x58, x59, x60, x61, x62, x63, x64, x65, x66, x67, x68, x69, x70, x71, x72, x73])), (h1, .inl (aC 0, 5, .inl (fun _ => 0))), (h2, .inl (aC 0, 40, .inl (fun _ => 0))), (h3, .inl (aC 0, 40, .inl (fun _ => 0))), (h4, .inl (aC 3, 40, .inl (fun _ => 0)))] H := hP
      have hD : va_D A [(h0, .inr (11, [x0, x1, x2, x3, x4, x5, x6, x7, x8, x9, x10, x11, x12, x13, x14, x15, x16, x17, x18, x19, x20, x21, x22, x23, x24, x25, x26, x27, x28, x29, x30, x31, x32, x33, x34, x35, x36, x37, x38, x39, x40, x41, x42, x43, x44, x45, x46, x47, x48, x49, x50, .ref h1, .ref h2, .ref h3, .ref h4, x55, x56, x57, x58, x59, x60, x61, x62, x63, x64, x65, x66, x67, x68, x69, x70, x71, x72, x73])), (h1, .inl (aC 0, 5, .inl (fun _ => 0))), (h2, .inl (aC 0, 40, .inl (fun _ => 0))), (h3, .inl (aC 0, 40, .inl (fun _ => 0))), (h4, .inl (aC 3, 40, .inl (fun _ => 0)))] := hD
      refine lv_aload_n hx hb dX11_laysSeen_64 rfl (lv_at hl 1 rfl) ?_
      refine xget F hP 0 rfl rfl inX11 54 (by decide) tb1236 rfl dX11_laysSeen_65 ?_
      refine lv_bipush (v := 8) hx hb dX11_laysSeen_68 (by decide) ?_
      refine lv_iload_n hx hb dX11_laysSeen_70 rfl (lv_at hl 3 rfl) ?_
      refine lv_imul hx hb dX11_laysSeen_71 ?_
      refine relit (v := 24) (by decide +kernel) ?_
      refine lv_iload_n hx hb dX11_laysSeen_72 rfl (lv_at hl 0 rfl) ?_
      refine lv_iadd hx hb dX11_laysSeen_73 ?_
      refine relit (v := (nI (k + 24))) (nadd (a := 24) (b := k) (by omega)) ?_
      refine lv_aload_n hx hb dX11_laysSeen_74 rfl (lv_at hl 1 rfl) ?_
      refine xget F hP 0 rfl rfl inX11 54 (by decide) tb1236 rfl dX11_laysSeen_75 ?_
      refine lv_bipush (v := 8) hx hb dX11_laysSeen_78 (by decide) ?_
      refine lv_iload_n hx hb dX11_laysSeen_80 rfl (lv_at hl 2 rfl) ?_
      refine lv_imul hx hb dX11_laysSeen_81 ?_
      refine relit (v := 0) (by decide +kernel) ?_
      refine lv_iload_n hx hb dX11_laysSeen_82 rfl (lv_at hl 0 rfl) ?_
      refine lv_iadd hx hb dX11_laysSeen_83 ?_
      refine relit (v := (nI k)) (nadd (a := 0) (b := k) (by omega)) ?_
      refine xzlo (v := 0) F hP 4 rfl k (nI_pos (by omega)) (nI_clamp (by omega)) (by omega) rfl dX11_laysSeen_84 ?_
      refine xzst (f' := fun _ => 0) F hP hD hS 4 rfl (k + 24) (nI_pos (by omega)) (nI_clamp (by omega)) (by omega) (xz0 _ (by decide +kernel)) dX11_laysSeen_85 (fun H locs hP hD hS => ?_)
      have hP : va_P g vwCl [(h0, .inr (11, [x0, x1, x2, x3, x4, x5, x6, x7, x8, x9, x10, x11, x12, x13, x14, x15, x16, x17, x18, x19, x20, x21, x22, x23, x24, x25, x26, x27, x28, x29, x30, x31, x32, x33, x34, x35, x36, x37, x38, x39, x40, x41, x42, x43, x44, x45, x46, x47, x48, x49, x50, .ref h1, .ref h2, .ref h3, .ref h4, x55, x56, x57, x58, x59, x60, x61, x62, x63, x64, x65, x66, x67, x68, x69, x70, x71, x72, x73])), (h1, .inl (aC 0, 5, .inl (fun _ => 0))), (h2, .inl (aC 0, 40, .inl (fun _ => 0))), (h3, .inl (aC 0, 40, .inl (fun _ => 0))), (h4, .inl (aC 3, 40, .inl (fun _ => 0)))] H := hP
      have hD : va_D A [(h0, .inr (11, [x0, x1, x2, x3, x4, x5, x6, x7, x8, x9, x10, x11, x12, x13, x14, x15, x16, x17, x18, x19, x20, x21, x22, x23, x24, x25, x26, x27, x28, x29, x30, x31, x32, x33, x34, x35, x36, x37, x38, x39, x40, x41, x42, x43, x44, x45, x46, x47, x48, x49, x50, .ref h1, .ref h2, .ref h3, .ref h4, x55, x56, x57, x58, x59, x60, x61, x62, x63, x64, x65, x66, x67, x68, x69, x70, x71, x72, x73])), (h1, .inl (aC 0, 5, .inl (fun _ => 0))), (h2, .inl (aC 0, 40, .inl (fun _ => 0))), (h3, .inl (aC 0, 40, .inl (fun _ => 0))), (h4, .inl (aC 3, 40, .inl (fun _ => 0)))] := hD
      refine lv_iinc (v := (nI (k + 1))) (lv' := [(3, .int (nI (k + 1))), (0, .ref h0), (1, .int 0), (2, .int 3)]) hx hb dX11_laysSeen_86 hl (k := 0) rfl (ninc 1 (by omega)) (by decide) rfl (fun ls hl => ?_)
      refine lv_goto (tgt := 14) hx hb dX11_laysSeen_89 (by decide) ?_
      exact ih (k + 1)  _ _ _ (by omega) (hP.sub [0, 1, 2, 3, 4] rfl) (hD.sub [0, 1, 2, 3, 4] (by decide) rfl) hS (lv_sub hl [0, 1, 2, 3] rfl)
  exact hloop14 8 0  _ _ _ (by omega) hP hD hS hl

set_option maxHeartbeats 4000000 in
set_option maxRecDepth 100000 in
theorem k_laysLines_0_4 (l : Launch) (g : va_G) (aC : Nat → ClassId) (aM : Nat → Nat) (h0 h1 h2 h3 h4 h5 : Nat) (x0 x1 x2 x3 x4 x5 x6 x7 x8 x9 x10 x11 x12 x13 x14 x15 x16 x17 x18 x19 x20 x21 x22 x23 x24 x25 x26 x27 x28 x29 x30 x31 x32 x33 x34 x35 x36 x37 x38 x39 x40 x41 x42 x43 x44 x45 x51 x52 x53 x54 x55 x56 x57 x58 x59 x60 x61 x62 x63 x64 x65 x66 x67 x68 x69 x70 x71 x72 x73 : Value) : Ct l g aC aM yX11_laysLines cX11_laysLines 4 none 1 [.ref h0, .int 0, .int 4] [(h0, .inr (11, [x0, x1, x2, x3, x4, x5, x6, x7, x8, x9, x10, x11, x12, x13, x14, x15, x16, x17, x18, x19, x20, x21, x22, x23, x24, x25, x26, x27, x28, x29, x30, x31, x32, x33, x34, x35, x36, x37, x38, x39, x40, x41, x42, x43, x44, x45, .ref h1, .ref h2, .ref h3, .ref h4, .ref h5, x51, x52, x53, x54, x55, x56, x57, x58, x59, x60, x61, x62, x63, x64, x65, x66, x67, x68, x69, x70, x71, x72, x73])), (h1, .inl (aC 0, 6, .inl (fun _ => 0))), (h2, .inl (aC 0, 240, .inl (fun _ => 0))), (h3, .inl (aC 0, 240, .inl (fun _ => 0))), (h4, .inl (aC 0, 240, .inl (fun _ => 0))), (h5, .inl (aC 0, 240, .inl (fun _ => 0)))] (QV g (fun (_ : Unit) => True) (fun (_ : Unit) => [(h0, .inr (11, [x0, x1, x2, x3, x4, x5, x6, x7, x8, x9, x10, x11, x12, x13, x14, x15, x16, x17, x18, x19, x20, x21, x22, x23, x24, x25, x26, x27, x28, x29, x30, x31, x32, x33, x34, x35, x36, x37, x38, x39, x40, x41, x42, x43, x44, x45, .ref h1, .ref h2, .ref h3, .ref h4, .ref h5, x51, x52, x53, x54, x55, x56, x57, x58, x59, x60, x61, x62, x63, x64, x65, x66, x67, x68, x69, x70, x71, x72, x73])), (h1, .inl (aC 0, 6, .inl (fun _ => 0))), (h2, .inl (aC 0, 240, .inl (fun _ => 0))), (h3, .inl (aC 0, 240, .inl (fun _ => 0))), (h4, .inl (aC 0, 240, .inl (fun _ => 0))), (h5, .inl (aC 0, 240, .inl (fun _ => 0)))])) 0 0 := by
  refine Ct.mk (by decide) (Nat.le_of_ble_eq_true rfl) ?_
  intro p e s m below meth c A ls hx hb hml hown hts hr hlk hnm hK hA hM hM2 hP hD hS hl
  have hown : s.vm.findClass RX11 = some m.cls := hown
  have F : Fx p s m _ c cX11_laysLines 4 RX11 g aC aM A := ⟨hx, hb, hml, hown, hts, hK, hA, hM, hM2⟩
  have hl : lv_has ls 4 [(0, .ref h0), (1, .int 0), (2, .int 4)] := hl
  refine lv_aload_n hx hb dX11_laysLines_0 rfl (lv_at hl 0 rfl) ?_
  refine xget F hP 0 rfl rfl inX11 46 (by decide) tb1228 rfl dX11_laysLines_1 ?_
  refine lv_iload_n hx hb dX11_laysLines_4 rfl (lv_at hl 2 rfl) ?_
  refine lv_aload_n hx hb dX11_laysLines_5 rfl (lv_at hl 0 rfl) ?_
  refine xget F hP 0 rfl rfl inX11 46 (by decide) tb1228 rfl dX11_laysLines_6 ?_
  refine lv_iload_n hx hb dX11_laysLines_9 rfl (lv_at hl 1 rfl) ?_
  refine xilo (v := 0) F hP 1 rfl 0 (by decide +kernel) (by decide +kernel) (by decide) (by decide +kernel) dX11_laysLines_10 ?_
  refine xist (f' := fun _ => 0) F hP hD hS 1 rfl 4 (by decide +kernel) (by decide +kernel) (by decide) (xup0 _) dX11_laysLines_11 (fun H locs hP hD hS => ?_)
  have hP : va_P g vwCl [(h0, .inr (11, [x0, x1, x2, x3, x4, x5, x6, x7, x8, x9, x10, x11, x12, x13, x14, x15, x16, x17, x18, x19, x20, x21, x22, x23, x24, x25, x26, x27, x28, x29, x30, x31, x32, x33, x34, x35, x36, x37, x38, x39, x40, x41, x42, x43, x44, x45, .ref h1, .ref h2, .ref h3, .ref h4, .ref h5, x51, x52, x53, x54, x55, x56, x57, x58, x59, x60, x61, x62, x63, x64, x65, x66, x67, x68, x69, x70, x71, x72, x73])), (h1, .inl (aC 0, 6, .inl (fun _ => 0))), (h2, .inl (aC 0, 240, .inl (fun _ => 0))), (h3, .inl (aC 0, 240, .inl (fun _ => 0))), (h4, .inl (aC 0, 240, .inl (fun _ => 0))), (h5, .inl (aC 0, 240, .inl (fun _ => 0)))] H := hP
  have hD : va_D A [(h0, .inr (11, [x0, x1, x2, x3, x4, x5, x6, x7, x8, x9, x10, x11, x12, x13, x14, x15, x16, x17, x18, x19, x20, x21, x22, x23, x24, x25, x26, x27, x28, x29, x30, x31, x32, x33, x34, x35, x36, x37, x38, x39, x40, x41, x42, x43, x44, x45, .ref h1, .ref h2, .ref h3, .ref h4, .ref h5, x51, x52, x53, x54, x55, x56, x57, x58, x59, x60, x61, x62, x63, x64, x65, x66, x67, x68, x69, x70, x71, x72, x73])), (h1, .inl (aC 0, 6, .inl (fun _ => 0))), (h2, .inl (aC 0, 240, .inl (fun _ => 0))), (h3, .inl (aC 0, 240, .inl (fun _ => 0))), (h4, .inl (aC 0, 240, .inl (fun _ => 0))), (h5, .inl (aC 0, 240, .inl (fun _ => 0)))] := hD
  refine lv_iconst (v := 0) hx hb dX11_laysLines_12 (by decide) ?_
  refine lv_istore_n (lv' := [(3, .int 0), (0, .ref h0), (1, .int 0), (2, .int 4)]) hx hb dX11_laysLines_13 rfl hl (by decide) rfl (fun ls hl => ?_)
  refine W.widen (k := 0) (n := 0) (Nat.le_of_ble_eq_true rfl) (Nat.le_of_ble_eq_true rfl) ?_
  have hloop14 : ∀ (n k : Nat) (H : Heap) (locs : List Loc) (ls : Array Slot), k + n = 40 → va_P g vwCl [(h0, .inr (11, [x0, x1, x2, x3, x4, x5, x6, x7, x8, x9, x10, x11, x12, x13, x14, x15, x16, x17, x18, x19, x20, x21, x22, x23, x24, x25, x26, x27, x28, x29, x30, x31, x32, x33, x34, x35, x36, x37, x38, x39, x40, x41, x42, x43, x44, x45, .ref h1, .ref h2, .ref h3, .ref h4, .ref h5, x51, x52, x53, x54, x55, x56, x57, x58, x59, x60, x61, x62, x63, x64, x65, x66, x67, x68, x69, x70, x71, x72, x73])), (h1, .inl (aC 0, 6, .inl (fun _ => 0))), (h2, .inl (aC 0, 240, .inl (fun _ => 0))), (h3, .inl (aC 0, 240, .inl (fun _ => 0))), (h4, .inl (aC 0, 240, .inl (fun _ => 0))), (h5, .inl (aC 0, 240, .inl (fun _ => 0)))] H → va_D A [(h0, .inr (11, [x0, x1, x2, x3, x4, x5, x6, x7, x8, x9, x10, x11, x12, x13, x14, x15, x16, x17, x18, x19, x20, x21, x22, x23, x24, x25, x26, x27, x28, x29, x30, x31, x32, x33, x34, x35, x36, x37, x38, x39, x40, x41, x42, x43, x44, x45, .ref h1, .ref h2, .ref h3, .ref h4, .ref h5, x51, x52, x53, x54, x55, x56, x57, x58, x59, x60, x61, x62, x63, x64, x65, x66, x67, x68, x69, x70, x71, x72, x73])), (h1, .inl (aC 0, 6, .inl (fun _ => 0))), (h2, .inl (aC 0, 240, .inl (fun _ => 0))), (h3, .inl (aC 0, 240, .inl (fun _ => 0))), (h4, .inl (aC 0, 240, .inl (fun _ => 0))), (h5, .inl (aC 0, 240, .inl (fun _ => 0)))] → va_S A s.heap H locs → lv_has ls 4 [(3, .int (nI k)), (0, .ref h0), (1, .int 0), (2, .int 4)] → W p l e (rmL 1 0 0) s m [.ref h0, .int 0, .int 4].toArray below meth c H locs 0 0 (MQ below (QV g (fun (_ : Unit) => True) (fun (_ : Unit) => [(h0, .inr (11, [x0, x1, x2, x3, x4, x5, x6, x7, x8, x9, x10, x11, x12, x13, x14, x15, x16, x17, x18, x19, x20, x21, x22, x23, x24, x25, x26, x27, x28, x29, x30, x31, x32, x33, x34, x35, x36, x37, x38, x39, x40, x41, x42, x43, x44, x45, .ref h1, .ref h2, .ref h3, .ref h4, .ref h5, x51, x52, x53, x54, x55, x56, x57, x58, x59, x60, x61, x62, x63, x64, x65, x66, x67, x68, x69, x70, x71, x72, x73])), (h1, .inl (aC 0, 6, .inl (fun _ => 0))), (h2, .inl (aC 0, 240, .inl (fun _ => 0))), (h3, .inl (aC 0, 240, .inl (fun _ => 0))), (h4, .inl (aC 0, 240, .inl (fun _ => 0))), (h5, .inl (aC 0, 240, .inl (fun _ => 0)))]) A) [.ref h0, .int 0, .int 4].toArray s 0 0 A) (F0 m 14 ls []) := by
    intro n
    induction n with
    | zero =>
      intro k  H locs ls hk  hP hD hS hl
      obtain rfl : k = 40 := by omega
      have hl : lv_has ls 4 [(3, .int 40), (0, .ref h0), (1, .int 0), (2, .int 4)] := hl
      refine lv_iload_n hx hb dX11_laysLines_14 rfl (lv_at hl 0 rfl) ?_
      refine lv_bipush (v := 40) hx hb dX11_laysLines_15 (by decide) ?_
      refine lv_icmp_ge (tgt := 114) hx hb dX11_laysLines_17 (by decide) (fun _ => ?_) (fun c_ => absurd (by decide +kernel) c_)
      have hP9 := hP.sub (ws' := [(h0, .inr (11, [x0, x1, x2, x3, x4, x5, x6, x7, x8, x9, x10, x11, x12, x13, x14, x15, x16, x17, x18, x19, x20, x21, x22, x23, x24, x25, x26, x27, x28, x29, x30, x31, x32, x33, x34, x35, x36, x37, x38, x39, x40, x41, x42, x43, x44, x45, .ref h1, .ref h2, .ref h3, .ref h4, .ref h5, x51, x52, x53, x54, x55, x56, x57, x58, x59, x60, x61, x62, x63, x64, x65, x66, x67, x68, x69, x70, x71, x72, x73])), (h1, .inl (aC 0, 6, .inl (fun _ => 0))), (h2, .inl (aC 0, 240, .inl (fun _ => 0))), (h3, .inl (aC 0, 240, .inl (fun _ => 0))), (h4, .inl (aC 0, 240, .inl (fun _ => 0))), (h5, .inl (aC 0, 240, .inl (fun _ => 0)))]) [0, 1, 2, 3, 4, 5] rfl
      have hD9 := hD.sub (ws' := [(h0, .inr (11, [x0, x1, x2, x3, x4, x5, x6, x7, x8, x9, x10, x11, x12, x13, x14, x15, x16, x17, x18, x19, x20, x21, x22, x23, x24, x25, x26, x27, x28, x29, x30, x31, x32, x33, x34, x35, x36, x37, x38, x39, x40, x41, x42, x43, x44, x45, .ref h1, .ref h2, .ref h3, .ref h4, .ref h5, x51, x52, x53, x54, x55, x56, x57, x58, x59, x60, x61, x62, x63, x64, x65, x66, x67, x68, x69, x70, x71, x72, x73])), (h1, .inl (aC 0, 6, .inl (fun _ => 0))), (h2, .inl (aC 0, 240, .inl (fun _ => 0))), (h3, .inl (aC 0, 240, .inl (fun _ => 0))), (h4, .inl (aC 0, 240, .inl (fun _ => 0))), (h5, .inl (aC 0, 240, .inl (fun _ => 0)))]) [0, 1, 2, 3, 4, 5] (by decide) rfl
      exact rV () hx hb hr hlk hS trivial hP9 hD9 (Nat.le_of_ble_eq_true rfl) (Nat.le_of_ble_eq_true rfl) dX11_laysLines_114
    | succ n ih =>
      intro k  H locs ls hk  hP hD hS hl
      have hk2 : k < 40 := by omega
      refine lv_iload_n hx hb dX11_laysLines_14 rfl (lv_at hl 0 rfl) ?_
      refine lv_bipush (v := 40) hx hb dX11_laysLines_15 (by decide) ?_
      refine lv_icmp_ge (tgt := 114) hx hb dX11_laysLines_17 (by decide) (fun c_ => absurd c_ (show ¬ (nI 40 ≤ nI k) by rw [nI_leI (by omega) (by omega)]; omega)) (fun _ => ?_)
      refine lv_aload_n hx hb dX11_laysLines_20 rfl (lv_at hl 1 rfl) ?_
      refine xget F hP 0 rfl rfl inX11 47 (by decide) tb1229 rfl dX11_laysLines_21 ?_
      refine lv_bipush (v := 40) hx hb dX11_laysLines_24 (by decide) ?_
      refine lv_iload_n hx hb dX11_laysLines_26 rfl (lv_at hl 3 rfl) ?_
      refine lv_imul hx hb dX11_laysLines_27 ?_
      refine relit (v := 160) (by decide +kernel) ?_
      refine lv_iload_n hx hb dX11_laysLines_28 rfl (lv_at hl 0 rfl) ?_
      refine lv_iadd hx hb dX11_laysLines_29 ?_
      refine relit (v := (nI (k + 160))) (nadd (a := 160) (b := k) (by omega)) ?_
      refine lv_aload_n hx hb dX11_laysLines_30 rfl (lv_at hl 1 rfl) ?_
      refine xget F hP 0 rfl rfl inX11 47 (by decide) tb1229 rfl dX11_laysLines_31 ?_
      refine lv_bipush (v := 40) hx hb dX11_laysLines_34 (by decide) ?_
      refine lv_iload_n hx hb dX11_laysLines_36 rfl (lv_at hl 2 rfl) ?_
      refine lv_imul hx hb dX11_laysLines_37 ?_
      refine relit (v := 0) (by decide +kernel) ?_
      refine lv_iload_n hx hb dX11_laysLines_38 rfl (lv_at hl 0 rfl) ?_
      refine lv_iadd hx hb dX11_laysLines_39 ?_
      refine relit (v := (nI k)) (nadd (a := 0) (b := k) (by omega)) ?_
      refine xilo (v := 0) F hP 2 rfl k (nI_pos (by omega)) (nI_clamp (by omega)) (by omega) rfl dX11_laysLines_40 ?_
      refine xist (f' := fun _ => 0) F hP hD hS 2 rfl (k + 160) (nI_pos (by omega)) (nI_clamp (by omega)) (by omega) (xup0 _) dX11_laysLines_41 (fun H locs hP hD hS => ?_)
      have hP : va_P g vwCl [(h0, .inr (11, [x0, x1, x2, x3, x4, x5, x6, x7, x8, x9, x10, x11, x12, x13, x14, x15, x16, x17, x18, x19, x20, x21, x22, x23, x24, x25, x26, x27, x28, x29, x30, x31, x32, x33, x34, x35, x36, x37, x38, x39, x40, x41, x42, x43, x44, x45, .ref h1, .ref h2, .ref h3, .ref h4, .ref h5, x51, x52, x53, x54, x55, x56, x57, x58, x59, x60, x61, x62, x63, x64, x65, x66, x67, x68, x69, x70, x71, x72, x73])), (h1, .inl (aC 0, 6, .inl (fun _ => 0))), (h2, .inl (aC 0, 240, .inl (fun _ => 0))), (h3, .inl (aC 0, 240, .inl (fun _ => 0))), (h4, .inl (aC 0, 240, .inl (fun _ => 0))), (h5, .inl (aC 0, 240, .inl (fun _ => 0)))] H := hP
      have hD : va_D A [(h0, .inr (11, [x0, x1, x2, x3, x4, x5, x6, x7, x8, x9, x10, x11, x12, x13, x14, x15, x16, x17, x18, x19, x20, x21, x22, x23, x24, x25, x26, x27, x28, x29, x30, x31, x32, x33, x34, x35, x36, x37, x38, x39, x40, x41, x42, x43, x44, x45, .ref h1, .ref h2, .ref h3, .ref h4, .ref h5, x51, x52, x53, x54, x55, x56, x57, x58, x59, x60, x61, x62, x63, x64, x65, x66, x67, x68, x69, x70, x71, x72, x73])), (h1, .inl (aC 0, 6, .inl (fun _ => 0))), (h2, .inl (aC 0, 240, .inl (fun _ => 0))), (h3, .inl (aC 0, 240, .inl (fun _ => 0))), (h4, .inl (aC 0, 240, .inl (fun _ => 0))), (h5, .inl (aC 0, 240, .inl (fun _ => 0)))] := hD
      refine lv_aload_n hx hb dX11_laysLines_42 rfl (lv_at hl 1 rfl) ?_
      refine xget F hP 0 rfl rfl inX11 48 (by decide) tb1230 rfl dX11_laysLines_43 ?_
      refine lv_bipush (v := 40) hx hb dX11_laysLines_46 (by decide) ?_
      refine lv_iload_n hx hb dX11_laysLines_48 rfl (lv_at hl 3 rfl) ?_
      refine lv_imul hx hb dX11_laysLines_49 ?_
      refine relit (v := 160) (by decide +kernel) ?_
      refine lv_iload_n hx hb dX11_laysLines_50 rfl (lv_at hl 0 rfl) ?_
      refine lv_iadd hx hb dX11_laysLines_51 ?_
      refine relit (v := (nI (k + 160))) (nadd (a := 160) (b := k) (by omega)) ?_
      refine lv_aload_n hx hb dX11_laysLines_52 rfl (lv_at hl 1 rfl) ?_
      refine xget F hP 0 rfl rfl inX11 48 (by decide) tb1230 rfl dX11_laysLines_53 ?_
      refine lv_bipush (v := 40) hx hb dX11_laysLines_56 (by decide) ?_
      refine lv_iload_n hx hb dX11_laysLines_58 rfl (lv_at hl 2 rfl) ?_
      refine lv_imul hx hb dX11_laysLines_59 ?_
      refine relit (v := 0) (by decide +kernel) ?_
      refine lv_iload_n hx hb dX11_laysLines_60 rfl (lv_at hl 0 rfl) ?_
      refine lv_iadd hx hb dX11_laysLines_61 ?_
      refine relit (v := (nI k)) (nadd (a := 0) (b := k) (by omega)) ?_
      refine xilo (v := 0) F hP 3 rfl k (nI_pos (by omega)) (nI_clamp (by omega)) (by omega) rfl dX11_laysLines_62 ?_
      refine xist (f' := fun _ => 0) F hP hD hS 3 rfl (k + 160) (nI_pos (by omega)) (nI_clamp (by omega)) (by omega) (xup0 _) dX11_laysLines_63 (fun H locs hP hD hS => ?_)
      have hP : va_P g vwCl [(h0, .inr (11, [x0, x1, x2, x3, x4, x5, x6, x7, x8, x9, x10, x11, x12, x13, x14, x15, x16, x17, x18, x19, x20, x21, x22, x23, x24, x25, x26, x27, x28, x29, x30, x31, x32, x33, x34, x35, x36, x37, x38, x39, x40, x41, x42, x43, x44, x45, .ref h1, .ref h2, .ref h3, .ref h4, .ref h5, x51, x52, x53, x54, x55, x56, x57, x58, x59, x60, x61, x62, x63, x64, x65, x66, x67, x68, x69, x70, x71, x72, x73])), (h1, .inl (aC 0, 6, .inl (fun _ => 0))), (h2, .inl (aC 0, 240, .inl (fun _ => 0))), (h3, .inl (aC 0, 240, .inl (fun _ => 0))), (h4, .inl (aC 0, 240, .inl (fun _ => 0))), (h5, .inl (aC 0, 240, .inl (fun _ => 0)))] H := hP
      have hD : va_D A [(h0, .inr (11, [x0, x1, x2, x3, x4, x5, x6, x7, x8, x9, x10, x11, x12, x13, x14, x15, x16, x17, x18, x19, x20, x21, x22, x23, x24, x25, x26, x27, x28, x29, x30, x31, x32, x33, x34, x35, x36, x37, x38, x39, x40, x41, x42, x43, x44, x45, .ref h1, .ref h2, .ref h3, .ref h4, .ref h5, x51, x52, x53, x54, x55, x56, x57, x58, x59, x60, x61, x62, x63, x64, x65, x66, x67, x68, x69, x70, x71, x72, x73])), (h1, .inl (aC 0, 6, .inl (fun _ => 0))), (h2, .inl (aC 0, 240, .inl (fun _ => 0))), (h3, .inl (aC 0, 240, .inl (fun _ => 0))), (h4, .inl (aC 0, 240, .inl (fun _ => 0))), (h5, .inl (aC 0, 240, .inl (fun _ => 0)))] := hD
      refine lv_aload_n hx hb dX11_laysLines_64 rfl (lv_at hl 1 rfl) ?_
      refine xget F hP 0 rfl rfl inX11 49 (by decide) tb1231 rfl dX11_laysLines_65 ?_
      refine lv_bipush (v := 40) hx hb dX11_laysLines_68 (by decide) ?_
      refine lv_iload_n hx hb dX11_laysLines_70 rfl (lv_at hl 3 rfl) ?_
      refine lv_imul hx hb dX11_laysLines_71 ?_
      refine relit (v := 160) (by decide +kernel) ?_
      refine lv_iload_n hx hb dX11_laysLines_72 rfl (lv_at hl 0 rfl) ?_
      refine lv_iadd hx hb dX11_laysLines_73 ?_
      refine relit (v := (nI (k + 160))) (nadd (a := 160) (b := k) (by omega)) ?_
      refine lv_aload_n hx hb dX11_laysLines_74 rfl (lv_at hl 1 rfl) ?_
      refine xget F hP 0 rfl rfl inX11 49 (by decide) tb1231 rfl dX11_laysLines_75 ?_
      refine lv_bipush (v := 40) hx hb dX11_laysLines_78 (by decide) ?_
      refine lv_iload_n hx hb dX11_laysLines_80 rfl (lv_at hl 2 rfl) ?_
      refine lv_imul hx hb dX11_laysLines_81 ?_
      refine relit (v := 0) (by decide +kernel) ?_
      refine lv_iload_n hx hb dX11_laysLines_82 rfl (lv_at hl 0 rfl) ?_
      refine lv_iadd hx hb dX11_laysLines_83 ?_
      refine relit (v := (nI k)) (nadd (a := 0) (b := k) (by omega)) ?_
      refine xilo (v := 0) F hP 4 rfl k (nI_pos (by omega)) (nI_clamp (by omega)) (by omega) rfl dX11_laysLines_84 ?_
      refine xist (f' := fun _ => 0) F hP hD hS 4 rfl (k + 160) (nI_pos (by omega)) (nI_clamp (by omega)) (by omega) (xup0 _) dX11_laysLines_85 (fun H locs hP hD hS => ?_)
      have hP : va_P g vwCl [(h0, .inr (11, [x0, x1, x2, x3, x4, x5, x6, x7, x8, x9, x10, x11, x12, x13, x14, x15, x16, x17, x18, x19, x20, x21, x22, x23, x24, x25, x26, x27, x28, x29, x30, x31, x32, x33, x34, x35, x36, x37, x38, x39, x40, x41, x42, x43, x44, x45, .ref h1, .ref h2, .ref h3, .ref h4, .ref h5, x51, x52, x53, x54, x55, x56, x57, x58, x59, x60, x61, x62, x63, x64, x65, x66, x67, x68, x69, x70, x71, x72, x73])), (h1, .inl (aC 0, 6, .inl (fun _ => 0))), (h2, .inl (aC 0, 240, .inl (fun _ => 0))), (h3, .inl (aC 0, 240, .inl (fun _ => 0))), (h4, .inl (aC 0, 240, .inl (fun _ => 0))), (h5, .inl (aC 0, 240, .inl (fun _ => 0)))] H := hP
      have hD : va_D A [(h0, .inr (11, [x0, x1, x2, x3, x4, x5, x6, x7, x8, x9, x10, x11, x12, x13, x14, x15, x16, x17, x18, x19, x20, x21, x22, x23, x24, x25, x26, x27, x28, x29, x30, x31, x32, x33, x34, x35, x36, x37, x38, x39, x40, x41, x42, x43, x44, x45, .ref h1, .ref h2, .ref h3, .ref h4, .ref h5, x51, x52, x53, x54, x55, x56, x57, x58, x59, x60, x61, x62, x63, x64, x65, x66, x67, x68, x69, x70, x71, x72, x73])), (h1, .inl (aC 0, 6, .inl (fun _ => 0))), (h2, .inl (aC 0, 240, .inl (fun _ => 0))), (h3, .inl (aC 0, 240, .inl (fun _ => 0))), (h4, .inl (aC 0, 240, .inl (fun _ => 0))), (h5, .inl (aC 0, 240, .inl (fun _ => 0)))] := hD
      refine lv_aload_n hx hb dX11_laysLines_86 rfl (lv_at hl 1 rfl) ?_
      refine xget F hP 0 rfl rfl inX11 50 (by decide) tb1232 rfl dX11_laysLines_87 ?_
      refine lv_bipush (v := 40) hx hb dX11_laysLines_90 (by decide) ?_
      refine lv_iload_n hx hb dX11_laysLines_92 rfl (lv_at hl 3 rfl) ?_
      refine lv_imul hx hb dX11_laysLines_93 ?_
      refine relit (v := 160) (by decide +kernel) ?_
      refine lv_iload_n hx hb dX11_laysLines_94 rfl (lv_at hl 0 rfl) ?_
      refine lv_iadd hx hb dX11_laysLines_95 ?_
      refine relit (v := (nI (k + 160))) (nadd (a := 160) (b := k) (by omega)) ?_
      refine lv_aload_n hx hb dX11_laysLines_96 rfl (lv_at hl 1 rfl) ?_
      refine xget F hP 0 rfl rfl inX11 50 (by decide) tb1232 rfl dX11_laysLines_97 ?_
      refine lv_bipush (v := 40) hx hb dX11_laysLines_100 (by decide) ?_
      refine lv_iload_n hx hb dX11_laysLines_102 rfl (lv_at hl 2 rfl) ?_
      refine lv_imul hx hb dX11_laysLines_103 ?_
      refine relit (v := 0) (by decide +kernel) ?_
      refine lv_iload_n hx hb dX11_laysLines_104 rfl (lv_at hl 0 rfl) ?_
      refine lv_iadd hx hb dX11_laysLines_105 ?_
      refine relit (v := (nI k)) (nadd (a := 0) (b := k) (by omega)) ?_
      refine xilo (v := 0) F hP 5 rfl k (nI_pos (by omega)) (nI_clamp (by omega)) (by omega) rfl dX11_laysLines_106 ?_
      refine xist (f' := fun _ => 0) F hP hD hS 5 rfl (k + 160) (nI_pos (by omega)) (nI_clamp (by omega)) (by omega) (xup0 _) dX11_laysLines_107 (fun H locs hP hD hS => ?_)
      have hP : va_P g vwCl [(h0, .inr (11, [x0, x1, x2, x3, x4, x5, x6, x7, x8, x9, x10, x11, x12, x13, x14, x15, x16, x17, x18, x19, x20, x21, x22, x23, x24, x25, x26, x27, x28, x29, x30, x31, x32, x33, x34, x35, x36, x37, x38, x39, x40, x41, x42, x43, x44, x45, .ref h1, .ref h2, .ref h3, .ref h4, .ref h5, x51, x52, x53, x54, x55, x56, x57, x58, x59, x60, x61, x62, x63, x64, x65, x66, x67, x68, x69, x70, x71, x72, x73])), (h1, .inl (aC 0, 6, .inl (fun _ => 0))), (h2, .inl (aC 0, 240, .inl (fun _ => 0))), (h3, .inl (aC 0, 240, .inl (fun _ => 0))), (h4, .inl (aC 0, 240, .inl (fun _ => 0))), (h5, .inl (aC 0, 240, .inl (fun _ => 0)))] H := hP
      have hD : va_D A [(h0, .inr (11, [x0, x1, x2, x3, x4, x5, x6, x7, x8, x9, x10, x11, x12, x13, x14, x15, x16, x17, x18, x19, x20, x21, x22, x23, x24, x25, x26, x27, x28, x29, x30, x31, x32, x33, x34, x35, x36, x37, x38, x39, x40, x41, x42, x43, x44, x45, .ref h1, .ref h2, .ref h3, .ref h4, .ref h5, x51, x52, x53, x54, x55, x56, x57, x58, x59, x60, x61, x62, x63, x64, x65, x66, x67, x68, x69, x70, x71, x72, x73])), (h1, .inl (aC 0, 6, .inl (fun _ => 0))), (h2, .inl (aC 0, 240, .inl (fun _ => 0))), (h3, .inl (aC 0, 240, .inl (fun _ => 0))), (h4, .inl (aC 0, 240, .inl (fun _ => 0))), (h5, .inl (aC 0, 240, .inl (fun _ => 0)))] := hD
      refine lv_iinc (v := (nI (k + 1))) (lv' := [(3, .int (nI (k + 1))), (0, .ref h0), (1, .int 0), (2, .int 4)]) hx hb dX11_laysLines_108 hl (k := 0) rfl (ninc 1 (by omega)) (by decide) rfl (fun ls hl => ?_)
      refine lv_goto (tgt := 14) hx hb dX11_laysLines_111 (by decide) ?_
      exact ih (k + 1)  _ _ _ (by omega) (hP.sub [0, 1, 2, 3, 4, 5] rfl) (hD.sub [0, 1, 2, 3, 4, 5] (by decide) rfl) hS (lv_sub hl [0, 1, 2, 3] rfl)
  exact hloop14 40 0  _ _ _ (by omega) hP hD hS hl

set_option maxHeartbeats 4000000 in
set_option maxRecDepth 100000 in
theorem k_laysSeen_0_4 (l : Launch) (g : va_G) (aC : Nat → ClassId) (aM : Nat → Nat) (h0 h1 h2 h3 h4 : Nat) (x0 x1 x2 x3 x4 x5 x6 x7 x8 x9 x10 x11 x12 x13 x14 x15 x16 x17 x18 x19 x20 x21 x22 x23 x24 x25 x26 x27 x28 x29 x30 x31 x32 x33 x34 x35 x36 x37 x38 x39 x40 x41 x42 x43 x44 x45 x46 x47 x48 x49 x50 x55 x56 x57 x58 x59 x60 x61 x62 x63 x64 x65 x66 x67 x68 x69 x70 x71 x72 x73 : Value) : Ct l g aC aM yX11_laysSeen cX11_laysSeen 4 none 1 [.ref h0, .int 0, .int 4] [(h0, .inr (11, [x0, x1, x2, x3, x4, x5, x6, x7, x8, x9, x10, x11, x12, x13, x14, x15, x16, x17, x18, x19, x20, x21, x22, x23, x24, x25, x26, x27, x28, x29, x30, x31, x32, x33, x34, x35, x36, x37, x38, x39, x40, x41, x42, x43, x44, x45, x46, x47, x48, x49, x50, .ref h1, .ref h2, .ref h3, .ref h4, x55, x56, x57, x58, x59, x60, x61, x62, x63, x64, x65, x66, x67, x68, x69, x70, x71, x72, x73])), (h1, .inl (aC 0, 5, .inl (fun _ => 0))), (h2, .inl (aC 0, 40, .inl (fun _ => 0))), (h3, .inl (aC 0, 40, .inl (fun _ => 0))), (h4, .inl (aC 3, 40, .inl (fun _ => 0)))] (QV g (fun (_ : Unit) => True) (fun (_ : Unit) => [(h0, .inr (11, [x0, x1, x2, x3, x4, x5, x6, x7, x8, x9, x10, x11, x12, x13, x14, x15, x16, x17, x18, x19, x20, x21, x22, x23, x24, x25, x26, x27, x28, x29, x30, x31, x32, x33, x34, x35, x36, x37, x38, x39, x40, x41, x42, x43, x44, x45, x46, x47, x48, x49, x50, .ref h1, .ref h2, .ref h3, .ref h4, x55, x56, x57, x58, x59, x60, x61, x62, x63, x64, x65, x66, x67, x68, x69, x70, x71, x72, x73])), (h1, .inl (aC 0, 5, .inl (fun _ => 0))), (h2, .inl (aC 0, 40, .inl (fun _ => 0))), (h3, .inl (aC 0, 40, .inl (fun _ => 0))), (h4, .inl (aC 3, 40, .inl (fun _ => 0)))])) 0 0 := by
  refine Ct.mk (by decide) (Nat.le_of_ble_eq_true rfl) ?_
  intro p e s m below meth c A ls hx hb hml hown hts hr hlk hnm hK hA hM hM2 hP hD hS hl
  have hown : s.vm.findClass RX11 = some m.cls := hown
  have F : Fx p s m _ c cX11_laysSeen 4 RX11 g aC aM A := ⟨hx, hb, hml, hown, hts, hK, hA, hM, hM2⟩
  have hl : lv_has ls 4 [(0, .ref h0), (1, .int 0), (2, .int 4)] := hl
  refine lv_aload_n hx hb dX11_laysSeen_0 rfl (lv_at hl 0 rfl) ?_
  refine xget F hP 0 rfl rfl inX11 51 (by decide) tb1233 rfl dX11_laysSeen_1 ?_
  refine lv_iload_n hx hb dX11_laysSeen_4 rfl (lv_at hl 2 rfl) ?_
  refine lv_aload_n hx hb dX11_laysSeen_5 rfl (lv_at hl 0 rfl) ?_
  refine xget F hP 0 rfl rfl inX11 51 (by decide) tb1233 rfl dX11_laysSeen_6 ?_
  refine lv_iload_n hx hb dX11_laysSeen_9 rfl (lv_at hl 1 rfl) ?_
  refine xilo (v := 0) F hP 1 rfl 0 (by decide +kernel) (by decide +kernel) (by decide) (by decide +kernel) dX11_laysSeen_10 ?_
  refine xist (f' := fun _ => 0) F hP hD hS 1 rfl 4 (by decide +kernel) (by decide +kernel) (by decide) (xup0 _) dX11_laysSeen_11 (fun H locs hP hD hS => ?_)
  have hP : va_P g vwCl [(h0, .inr (11, [x0, x1, x2, x3, x4, x5, x6, x7, x8, x9, x10, x11, x12, x13, x14, x15, x16, x17, x18, x19, x20, x21, x22, x23, x24, x25, x26, x27, x28, x29, x30, x31, x32, x33, x34, x35, x36, x37, x38, x39, x40, x41, x42, x43, x44, x45, x46, x47, x48, x49, x50, .ref h1, .ref h2, .ref h3, .ref h4, x55, x56, x57, x58, x59, x60, x61, x62, x63, x64, x65, x66, x67, x68, x69, x70, x71, x72, x73])), (h1, .inl (aC 0, 5, .inl (fun _ => 0))), (h2, .inl (aC 0, 40, .inl (fun _ => 0))), (h3, .inl (aC 0, 40, .inl (fun _ => 0))), (h4, .inl (aC 3, 40, .inl (fun _ => 0)))] H := hP
  have hD : va_D A [(h0, .inr (11, [x0, x1, x2, x3, x4, x5, x6, x7, x8, x9, x10, x11, x12, x13, x14, x15, x16, x17, x18, x19, x20, x21, x22, x23, x24, x25, x26, x27, x28, x29, x30, x31, x32, x33, x34, x35, x36, x37, x38, x39, x40, x41, x42, x43, x44, x45, x46, x47, x48, x49, x50, .ref h1, .ref h2, .ref h3, .ref h4, x55, x56, x57, x58, x59, x60, x61, x62, x63, x64, x65, x66, x67, x68, x69, x70, x71, x72, x73])), (h1, .inl (aC 0, 5, .inl (fun _ => 0))), (h2, .inl (aC 0, 40, .inl (fun _ => 0))), (h3, .inl (aC 0, 40, .inl (fun _ => 0))), (h4, .inl (aC 3, 40, .inl (fun _ => 0)))] := hD
  refine lv_iconst (v := 0) hx hb dX11_laysSeen_12 (by decide) ?_
  refine lv_istore_n (lv' := [(3, .int 0), (0, .ref h0), (1, .int 0), (2, .int 4)]) hx hb dX11_laysSeen_13 rfl hl (by decide) rfl (fun ls hl => ?_)
  refine W.widen (k := 0) (n := 0) (Nat.le_of_ble_eq_true rfl) (Nat.le_of_ble_eq_true rfl) ?_
  have hloop14 : ∀ (n k : Nat) (H : Heap) (locs : List Loc) (ls : Array Slot), k + n = 8 → va_P g vwCl [(h0, .inr (11, [x0, x1, x2, x3, x4, x5, x6, x7, x8, x9, x10, x11, x12, x13, x14, x15, x16, x17, x18, x19, x20, x21, x22, x23, x24, x25, x26, x27, x28, x29, x30, x31, x32, x33, x34, x35, x36, x37, x38, x39, x40, x41, x42, x43, x44, x45, x46, x47, x48, x49, x50, .ref h1, .ref h2, .ref h3, .ref h4, x55, x56, x57, x58, x59, x60, x61, x62, x63, x64, x65, x66, x67, x68, x69, x70, x71, x72, x73])), (h1, .inl (aC 0, 5, .inl (fun _ => 0))), (h2, .inl (aC 0, 40, .inl (fun _ => 0))), (h3, .inl (aC 0, 40, .inl (fun _ => 0))), (h4, .inl (aC 3, 40, .inl (fun _ => 0)))] H → va_D A [(h0, .inr (11, [x0, x1, x2, x3, x4, x5, x6, x7, x8, x9, x10, x11, x12, x13, x14, x15, x16, x17, x18, x19, x20, x21, x22, x23, x24, x25, x26, x27, x28, x29, x30, x31, x32, x33, x34, x35, x36, x37, x38, x39, x40, x41, x42, x43, x44, x45, x46, x47, x48, x49, x50, .ref h1, .ref h2, .ref h3, .ref h4, x55, x56, x57, x58, x59, x60, x61, x62, x63, x64, x65, x66, x67, x68, x69, x70, x71, x72, x73])), (h1, .inl (aC 0, 5, .inl (fun _ => 0))), (h2, .inl (aC 0, 40, .inl (fun _ => 0))), (h3, .inl (aC 0, 40, .inl (fun _ => 0))), (h4, .inl (aC 3, 40, .inl (fun _ => 0)))] → va_S A s.heap H locs → lv_has ls 4 [(3, .int (nI k)), (0, .ref h0), (1, .int 0), (2, .int 4)] → W p l e (rmL 1 0 0) s m [.ref h0, .int 0, .int 4].toArray below meth c H locs 0 0 (MQ below (QV g (fun (_ : Unit) => True) (fun (_ : Unit) => [(h0, .inr (11, [x0, x1, x2, x3, x4, x5, x6, x7, x8, x9, x10, x11, x12, x13, x14, x15, x16, x17, x18, x19, x20, x21, x22, x23, x24, x25, x26, x27, x28, x29, x30, x31, x32, x33, x34, x35, x36, x37, x38, x39, x40, x41, x42, x43, x44, x45, x46, x47, x48, x49, x50, .ref h1, .ref h2, .ref h3, .ref h4, x55, x56, x57, x58, x59, x60, x61, x62, x63, x64, x65, x66, x67, x68, x69, x70, x71, x72, x73])), (h1, .inl (aC 0, 5, .inl (fun _ => 0))), (h2, .inl (aC 0, 40, .inl (fun _ => 0))), (h3, .inl (aC 0, 40, .inl (fun _ => 0))), (h4, .inl (aC 3, 40, .inl (fun _ => 0)))]) A) [.ref h0, .int 0, .int 4].toArray s 0 0 A) (F0 m 14 ls []) := by
    intro n
    induction n with
    | zero =>
      intro k  H locs ls hk  hP hD hS hl
      obtain rfl : k = 8 := by omega
      have hl : lv_has ls 4 [(3, .int 8), (0, .ref h0), (1, .int 0), (2, .int 4)] := hl
      refine lv_iload_n hx hb dX11_laysSeen_14 rfl (lv_at hl 0 rfl) ?_
      refine lv_bipush (v := 8) hx hb dX11_laysSeen_15 (by decide) ?_
      refine lv_icmp_ge (tgt := 92) hx hb dX11_laysSeen_17 (by decide) (fun _ => ?_) (fun c_ => absurd (by decide +kernel) c_)
      have hP9 := hP.sub (ws' := [(h0, .inr (11, [x0, x1, x2, x3, x4, x5, x6, x7, x8, x9, x10, x11, x12, x13, x14, x15, x16, x17, x18, x19, x20, x21, x22, x23, x24, x25, x26, x27, x28, x29, x30, x31, x32, x33, x34, x35, x36, x37, x38, x39, x40, x41, x42, x43, x44, x45, x46, x47, x48, x49, x50, .ref h1, .ref h2, .ref h3, .ref h4, x55, x56, x57, x58, x59, x60, x61, x62, x63, x64, x65, x66, x67, x68, x69, x70, x71, x72, x73])), (h1, .inl (aC 0, 5, .inl (fun _ => 0))), (h2, .inl (aC 0, 40, .inl (fun _ => 0))), (h3, .inl (aC 0, 40, .inl (fun _ => 0))), (h4, .inl (aC 3, 40, .inl (fun _ => 0)))]) [0, 1, 2, 3, 4] rfl
      have hD9 := hD.sub (ws' := [(h0, .inr (11, [x0, x1, x2, x3, x4, x5, x6, x7, x8, x9, x10, x11, x12, x13, x14, x15, x16, x17, x18, x19, x20, x21, x22, x23, x24, x25, x26, x27, x28, x29, x30, x31, x32, x33, x34, x35, x36, x37, x38, x39, x40, x41, x42, x43, x44, x45, x46, x47, x48, x49, x50, .ref h1, .ref h2, .ref h3, .ref h4, x55, x56, x57, x58, x59, x60, x61, x62, x63, x64, x65, x66, x67, x68, x69, x70, x71, x72, x73])), (h1, .inl (aC 0, 5, .inl (fun _ => 0))), (h2, .inl (aC 0, 40, .inl (fun _ => 0))), (h3, .inl (aC 0, 40, .inl (fun _ => 0))), (h4, .inl (aC 3, 40, .inl (fun _ => 0)))]) [0, 1, 2, 3, 4] (by decide) rfl
      exact rV () hx hb hr hlk hS trivial hP9 hD9 (Nat.le_of_ble_eq_true rfl) (Nat.le_of_ble_eq_true rfl) dX11_laysSeen_92
    | succ n ih =>
      intro k  H locs ls hk  hP hD hS hl
      have hk2 : k < 8 := by omega
      refine lv_iload_n hx hb dX11_laysSeen_14 rfl (lv_at hl 0 rfl) ?_
      refine lv_bipush (v := 8) hx hb dX11_laysSeen_15 (by decide) ?_
      refine lv_icmp_ge (tgt := 92) hx hb dX11_laysSeen_17 (by decide) (fun c_ => absurd c_ (show ¬ (nI 8 ≤ nI k) by rw [nI_leI (by omega) (by omega)]; omega)) (fun _ => ?_)
      refine lv_aload_n hx hb dX11_laysSeen_20 rfl (lv_at hl 1 rfl) ?_
      refine xget F hP 0 rfl rfl inX11 52 (by decide) tb1234 rfl dX11_laysSeen_21 ?_
      refine lv_bipush (v := 8) hx hb dX11_laysSeen_24 (by decide) ?_
      refine lv_iload_n hx hb dX11_laysSeen_26 rfl (lv_at hl 3 rfl) ?_
      refine lv_imul hx hb dX11_laysSeen_27 ?_
      refine relit (v := 32) (by decide +kernel) ?_
      refine lv_iload_n hx hb dX11_laysSeen_28 rfl (lv_at hl 0 rfl) ?_
      refine lv_iadd hx hb dX11_laysSeen_29 ?_
      refine relit (v := (nI (k + 32))) (nadd (a := 32) (b := k) (by omega)) ?_
      refine lv_aload_n hx hb dX11_laysSeen_30 rfl (lv_at hl 1 rfl) ?_
      refine xget F hP 0 rfl rfl inX11 52 (by decide) tb1234 rfl dX11_laysSeen_31 ?_
      refine lv_bipush (v := 8) hx hb dX11_laysSeen_34 (by decide) ?_
      refine lv_iload_n hx hb dX11_laysSeen_36 rfl (lv_at hl 2 rfl) ?_
      refine lv_imul hx hb dX11_laysSeen_37 ?_
      refine relit (v := 0) (by decide +kernel) ?_
      refine lv_iload_n hx hb dX11_laysSeen_38 rfl (lv_at hl 0 rfl) ?_
      refine lv_iadd hx hb dX11_laysSeen_39 ?_
      refine relit (v := (nI k)) (nadd (a := 0) (b := k) (by omega)) ?_
      refine xilo (v := 0) F hP 2 rfl k (nI_pos (by omega)) (nI_clamp (by omega)) (by omega) rfl dX11_laysSeen_40 ?_
      refine xist (f' := fun _ => 0) F hP hD hS 2 rfl (k + 32) (nI_pos (by omega)) (nI_clamp (by omega)) (by omega) (xup0 _) dX11_laysSeen_41 (fun H locs hP hD hS => ?_)
      have hP : va_P g vwCl [(h0, .inr (11, [x0, x1, x2, x3, x4, x5, x6, x7, x8, x9, x10, x11, x12, x13, x14, x15, x16, x17, x18, x19, x20, x21, x22, x23, x24, x25, x26, x27, x28, x29, x30, x31, x32, x33, x34, x35, x36, x37, x38, x39, x40, x41, x42, x43, x44, x45, x46, x47, x48, x49, x50, .ref h1, .ref h2, .ref h3, .ref h4, x55, x56, x57, x58, x59, x60, x61, x62, x63, x64, x65, x66, x67, x68, x69, x70, x71, x72, x73])), (h1, .inl (aC 0, 5, .inl (fun _ => 0))), (h2, .inl (aC 0, 40, .inl (fun _ => 0))), (h3, .inl (aC 0, 40, .inl (fun _ => 0))), (h4, .inl (aC 3, 40, .inl (fun _ => 0)))] H := hP
      have hD : va_D A [(h0, .inr (11, [x0, x1, x2, x3, x4, x5, x6, x7, x8, x9, x10, x11, x12, x13, x14, x15, x16, x17, x18, x19, x20, x21, x22, x23, x24, x25, x26, x27, x28, x29, x30, x31, x32, x33, x34, x35, x36, x37, x38, x39, x40, x41, x42, x43, x44, x45, x46, x47, x48, x49, x50, .ref h1, .ref h2, .ref h3, .ref h4, x55, x56, x57, x58, x59, x60, x61, x62, x63, x64, x65, x66, x67, x68, x69, x70, x71, x72, x73])), (h1, .inl (aC 0, 5, .inl (fun _ => 0))), (h2, .inl (aC 0, 40, .inl (fun _ => 0))), (h3, .inl (aC 0, 40, .inl (fun _ => 0))), (h4, .inl (aC 3, 40, .inl (fun _ => 0)))] := hD
      refine lv_aload_n hx hb dX11_laysSeen_42 rfl (lv_at hl 1 rfl) ?_
      refine xget F hP 0 rfl rfl inX11 53 (by decide) tb1235 rfl dX11_laysSeen_43 ?_
      refine lv_bipush (v := 8) hx hb dX11_laysSeen_46 (by decide) ?_
      refine lv_iload_n hx hb dX11_laysSeen_48 rfl (lv_at hl 3 rfl) ?_
      refine lv_imul hx hb dX11_laysSeen_49 ?_
      refine relit (v := 32) (by decide +kernel) ?_
      refine lv_iload_n hx hb dX11_laysSeen_50 rfl (lv_at hl 0 rfl) ?_
      refine lv_iadd hx hb dX11_laysSeen_51 ?_
      refine relit (v := (nI (k + 32))) (nadd (a := 32) (b := k) (by omega)) ?_
      refine lv_aload_n hx hb dX11_laysSeen_52 rfl (lv_at hl 1 rfl) ?_
      refine xget F hP 0 rfl rfl inX11 53 (by decide) tb1235 rfl dX11_laysSeen_53 ?_
      refine lv_bipush (v := 8) hx hb dX11_laysSeen_56 (by decide) ?_
      refine lv_iload_n hx hb dX11_laysSeen_58 rfl (lv_at hl 2 rfl) ?_
      refine lv_imul hx hb dX11_laysSeen_59 ?_
      refine relit (v := 0) (by decide +kernel) ?_
      refine lv_iload_n hx hb dX11_laysSeen_60 rfl (lv_at hl 0 rfl) ?_
      refine lv_iadd hx hb dX11_laysSeen_61 ?_
      refine relit (v := (nI k)) (nadd (a := 0) (b := k) (by omega)) ?_
      refine xilo (v := 0) F hP 3 rfl k (nI_pos (by omega)) (nI_clamp (by omega)) (by omega) rfl dX11_laysSeen_62 ?_
      refine xist (f' := fun _ => 0) F hP hD hS 3 rfl (k + 32) (nI_pos (by omega)) (nI_clamp (by omega)) (by omega) (xup0 _) dX11_laysSeen_63 (fun H locs hP hD hS => ?_)
      have hP : va_P g vwCl [(h0, .inr (11, [x0, x1, x2, x3, x4, x5, x6, x7, x8, x9, x10, x11, x12, x13, x14, x15, x16, x17, x18, x19, x20, x21, x22, x23, x24, x25, x26, x27, x28, x29, x30, x31, x32, x33, x34, x35, x36, x37, x38, x39, x40, x41, x42, x43, x44, x45, x46, x47, x48, x49, x50, .ref h1, .ref h2, .ref h3, .ref h4, x55, x56, x57, x58, x59, x60, x61, x62, x63, x64, x65, x66, x67, x68, x69, x70, x71, x72, x73])), (h1, .inl (aC 0, 5, .inl (fun _ => 0))), (h2, .inl (aC 0, 40, .inl (fun _ => 0))), (h3, .inl (aC 0, 40, .inl (fun _ => 0))), (h4, .inl (aC 3, 40, .inl (fun _ => 0)))] H := hP
      have hD : va_D A [(h0, .inr (11, [x0, x1, x2, x3, x4, x5, x6, x7, x8, x9, x10, x11, x12, x13, x14, x15, x16, x17, x18, x19, x20, x21, x22, x23, x24, x25, x26, x27, x28, x29, x30, x31, x32, x33, x34, x35, x36, x37, x38, x39, x40, x41, x42, x43, x44, x45, x46, x47, x48, x49, x50, .ref h1, .ref h2, .ref h3, .ref h4, x55, x56, x57, x58, x59, x60, x61, x62, x63, x64, x65, x66, x67, x68, x69, x70, x71, x72, x73])), (h1, .inl (aC 0, 5, .inl (fun _ => 0))), (h2, .inl (aC 0, 40, .inl (fun _ => 0))), (h3, .inl (aC 0, 40, .inl (fun _ => 0))), (h4, .inl (aC 3, 40, .inl (fun _ => 0)))] := hD
      refine lv_aload_n hx hb dX11_laysSeen_64 rfl (lv_at hl 1 rfl) ?_
      refine xget F hP 0 rfl rfl inX11 54 (by decide) tb1236 rfl dX11_laysSeen_65 ?_
      refine lv_bipush (v := 8) hx hb dX11_laysSeen_68 (by decide) ?_
      refine lv_iload_n hx hb dX11_laysSeen_70 rfl (lv_at hl 3 rfl) ?_
      refine lv_imul hx hb dX11_laysSeen_71 ?_
      refine relit (v := 32) (by decide +kernel) ?_
      refine lv_iload_n hx hb dX11_laysSeen_72 rfl (lv_at hl 0 rfl) ?_
      refine lv_iadd hx hb dX11_laysSeen_73 ?_
      refine relit (v := (nI (k + 32))) (nadd (a := 32) (b := k) (by omega)) ?_
      refine lv_aload_n hx hb dX11_laysSeen_74 rfl (lv_at hl 1 rfl) ?_
      refine xget F hP 0 rfl rfl inX11 54 (by decide) tb1236 rfl dX11_laysSeen_75 ?_
      refine lv_bipush (v := 8) hx hb dX11_laysSeen_78 (by decide) ?_
      refine lv_iload_n hx hb dX11_laysSeen_80 rfl (lv_at hl 2 rfl) ?_
      refine lv_imul hx hb dX11_laysSeen_81 ?_
      refine relit (v := 0) (by decide +kernel) ?_
      refine lv_iload_n hx hb dX11_laysSeen_82 rfl (lv_at hl 0 rfl) ?_
      refine lv_iadd hx hb dX11_laysSeen_83 ?_
      refine relit (v := (nI k)) (nadd (a := 0) (b := k) (by omega)) ?_
      refine xzlo (v := 0) F hP 4 rfl k (nI_pos (by omega)) (nI_clamp (by omega)) (by omega) rfl dX11_laysSeen_84 ?_
      refine xzst (f' := fun _ => 0) F hP hD hS 4 rfl (k + 32) (nI_pos (by omega)) (nI_clamp (by omega)) (by omega) (xz0 _ (by decide +kernel)) dX11_laysSeen_85 (fun H locs hP hD hS => ?_)
      have hP : va_P g vwCl [(h0, .inr (11, [x0, x1, x2, x3, x4, x5, x6, x7, x8, x9, x10, x11, x12, x13, x14, x15, x16, x17, x18, x19, x20, x21, x22, x23, x24, x25, x26, x27, x28, x29, x30, x31, x32, x33, x34, x35, x36, x37, x38, x39, x40, x41, x42, x43, x44, x45, x46, x47, x48, x49, x50, .ref h1, .ref h2, .ref h3, .ref h4, x55, x56, x57, x58, x59, x60, x61, x62, x63, x64, x65, x66, x67, x68, x69, x70, x71, x72, x73])), (h1, .inl (aC 0, 5, .inl (fun _ => 0))), (h2, .inl (aC 0, 40, .inl (fun _ => 0))), (h3, .inl (aC 0, 40, .inl (fun _ => 0))), (h4, .inl (aC 3, 40, .inl (fun _ => 0)))] H := hP
      have hD : va_D A [(h0, .inr (11, [x0, x1, x2, x3, x4, x5, x6, x7, x8, x9, x10, x11, x12, x13, x14, x15, x16, x17, x18, x19, x20, x21, x22, x23, x24, x25, x26, x27, x28, x29, x30, x31, x32, x33, x34, x35, x36, x37, x38, x39, x40, x41, x42, x43, x44, x45, x46, x47, x48, x49, x50, .ref h1, .ref h2, .ref h3, .ref h4, x55, x56, x57, x58, x59, x60, x61, x62, x63, x64, x65, x66, x67, x68, x69, x70, x71, x72, x73])), (h1, .inl (aC 0, 5, .inl (fun _ => 0))), (h2, .inl (aC 0, 40, .inl (fun _ => 0))), (h3, .inl (aC 0, 40, .inl (fun _ => 0))), (h4, .inl (aC 3, 40, .inl (fun _ => 0)))] := hD
      refine lv_iinc (v := (nI (k + 1))) (lv' := [(3, .int (nI (k + 1))), (0, .ref h0), (1, .int 0), (2, .int 4)]) hx hb dX11_laysSeen_86 hl (k := 0) rfl (ninc 1 (by omega)) (by decide) rfl (fun ls hl => ?_)
      refine lv_goto (tgt := 14) hx hb dX11_laysSeen_89 (by decide) ?_
      exact ih (k + 1)  _ _ _ (by omega) (hP.sub [0, 1, 2, 3, 4] rfl) (hD.sub [0, 1, 2, 3, 4] (by decide) rfl) hS (lv_sub hl [0, 1, 2, 3] rfl)
  exact hloop14 8 0  _ _ _ (by omega) hP hD hS hl

theorem dX11_within_0 : decode cX11_within 0 = .ok (.iload_n 0, 1) := by decide +kernel
theorem dX11_within_1 : decode cX11_within 1 = .ok (.iload_n 1, 1) := by decide +kernel
theorem dX11_within_2 : decode cX11_within 2 = .ok (.if_icmp .lt 12, 3) := by decide +kernel
theorem dX11_within_14 : decode cX11_within 14 = .ok (.iconst 0, 1) := by decide +kernel
theorem dX11_within_15 : decode cX11_within 15 = .ok (.ireturn, 1) := by decide +kernel
set_option maxHeartbeats 4000000 in
set_option maxRecDepth 100000 in
theorem k_within_lo (l : Launch) (g : va_G) (aC : Nat → ClassId) (aM : Nat → Nat) (v a b : Int32) (h1 : v < a) : Ct l g aC aM yX11_within cX11_within 3 (some .boolean) 1 [.int v, .int a, .int b] [] (QI g (fun (r : Int32) (_ : Unit) => r = 0) (fun (_ : Unit) => [])) 0 0 := by
  refine Ct.mk (by decide) (Nat.le_of_ble_eq_true rfl) ?_
  intro p e s m below meth c A ls hx hb hml hown hts hr hlk hnm hK hA hM hM2 hP hD hS hl
  have hown : s.vm.findClass RX11 = some m.cls := hown
  have F : Fx p s m _ c cX11_within 3 RX11 g aC aM A := ⟨hx, hb, hml, hown, hts, hK, hA, hM, hM2⟩
  have hl : lv_has ls 3 [(0, .int v), (1, .int a), (2, .int b)] := hl
  refine lv_iload_n hx hb dX11_within_0 rfl (lv_at hl 0 rfl) ?_
  refine lv_iload_n hx hb dX11_within_1 rfl (lv_at hl 1 rfl) ?_
  refine lv_icmp_lt (tgt := 14) hx hb dX11_within_2 (by decide) (fun _ => ?_) (fun c_ => absurd h1 c_)
  refine lv_iconst (v := 0) hx hb dX11_within_14 (by decide) ?_
  have hP9 := hP.sub (ws' := []) [] rfl
  have hD9 := hD.sub (ws' := []) [] (by decide) rfl
  exact rI () hx hb hr hlk rfl hS rfl hP9 hD9 (Nat.le_of_ble_eq_true rfl) (Nat.le_of_ble_eq_true rfl) dX11_within_15

theorem dX11_within_5 : decode cX11_within 5 = .ok (.iload_n 0, 1) := by decide +kernel
theorem dX11_within_6 : decode cX11_within 6 = .ok (.iload_n 2, 1) := by decide +kernel
theorem dX11_within_7 : decode cX11_within 7 = .ok (.if_icmp .gt 7, 3) := by decide +kernel
set_option maxHeartbeats 4000000 in
set_option maxRecDepth 100000 in
theorem k_within_hi (l : Launch) (g : va_G) (aC : Nat → ClassId) (aM : Nat → Nat) (v a b : Int32) (h1 : ¬ v < a) (h2 : b < v) : Ct l g aC aM yX11_within cX11_within 3 (some .boolean) 1 [.int v, .int a, .int b] [] (QI g (fun (r : Int32) (_ : Unit) => r = 0) (fun (_ : Unit) => [])) 0 0 := by
  refine Ct.mk (by decide) (Nat.le_of_ble_eq_true rfl) ?_
  intro p e s m below meth c A ls hx hb hml hown hts hr hlk hnm hK hA hM hM2 hP hD hS hl
  have hown : s.vm.findClass RX11 = some m.cls := hown
  have F : Fx p s m _ c cX11_within 3 RX11 g aC aM A := ⟨hx, hb, hml, hown, hts, hK, hA, hM, hM2⟩
  have hl : lv_has ls 3 [(0, .int v), (1, .int a), (2, .int b)] := hl
  refine lv_iload_n hx hb dX11_within_0 rfl (lv_at hl 0 rfl) ?_
  refine lv_iload_n hx hb dX11_within_1 rfl (lv_at hl 1 rfl) ?_
  refine lv_icmp_lt (tgt := 14) hx hb dX11_within_2 (by decide) (fun c_ => absurd c_ h1) (fun _ => ?_)
  refine lv_iload_n hx hb dX11_within_5 rfl (lv_at hl 0 rfl) ?_
  refine lv_iload_n hx hb dX11_within_6 rfl (lv_at hl 2 rfl) ?_
  refine lv_icmp_gt (tgt := 14) hx hb dX11_within_7 (by decide) (fun _ => ?_) (fun c_ => absurd h2 c_)
  refine lv_iconst (v := 0) hx hb dX11_within_14 (by decide) ?_
  have hP9 := hP.sub (ws' := []) [] rfl
  have hD9 := hD.sub (ws' := []) [] (by decide) rfl
  exact rI () hx hb hr hlk rfl hS rfl hP9 hD9 (Nat.le_of_ble_eq_true rfl) (Nat.le_of_ble_eq_true rfl) dX11_within_15

theorem dX11_within_10 : decode cX11_within 10 = .ok (.iconst 1, 1) := by decide +kernel
theorem dX11_within_11 : decode cX11_within 11 = .ok (.goto 4, 3) := by decide +kernel
set_option maxHeartbeats 4000000 in
set_option maxRecDepth 100000 in
theorem k_within_in (l : Launch) (g : va_G) (aC : Nat → ClassId) (aM : Nat → Nat) (v a b : Int32) (h1 : ¬ v < a) (h2 : ¬ b < v) : Ct l g aC aM yX11_within cX11_within 3 (some .boolean) 1 [.int v, .int a, .int b] [] (QI g (fun (r : Int32) (_ : Unit) => r = 1) (fun (_ : Unit) => [])) 0 0 := by
  refine Ct.mk (by decide) (Nat.le_of_ble_eq_true rfl) ?_
  intro p e s m below meth c A ls hx hb hml hown hts hr hlk hnm hK hA hM hM2 hP hD hS hl
  have hown : s.vm.findClass RX11 = some m.cls := hown
  have F : Fx p s m _ c cX11_within 3 RX11 g aC aM A := ⟨hx, hb, hml, hown, hts, hK, hA, hM, hM2⟩
  have hl : lv_has ls 3 [(0, .int v), (1, .int a), (2, .int b)] := hl
  refine lv_iload_n hx hb dX11_within_0 rfl (lv_at hl 0 rfl) ?_
  refine lv_iload_n hx hb dX11_within_1 rfl (lv_at hl 1 rfl) ?_
  refine lv_icmp_lt (tgt := 14) hx hb dX11_within_2 (by decide) (fun c_ => absurd c_ h1) (fun _ => ?_)
  refine lv_iload_n hx hb dX11_within_5 rfl (lv_at hl 0 rfl) ?_
  refine lv_iload_n hx hb dX11_within_6 rfl (lv_at hl 2 rfl) ?_
  refine lv_icmp_gt (tgt := 14) hx hb dX11_within_7 (by decide) (fun c_ => absurd c_ h2) (fun _ => ?_)
  refine lv_iconst (v := 1) hx hb dX11_within_10 (by decide) ?_
  refine lv_goto (tgt := 15) hx hb dX11_within_11 (by decide) ?_
  have hP9 := hP.sub (ws' := []) [] rfl
  have hD9 := hD.sub (ws' := []) [] (by decide) rfl
  exact rI () hx hb hr hlk rfl hS rfl hP9 hD9 (Nat.le_of_ble_eq_true rfl) (Nat.le_of_ble_eq_true rfl) dX11_within_15
