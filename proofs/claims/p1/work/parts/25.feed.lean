def sg (b : Int64) (sh : Int32) : Int32 := ((b.toUInt64 >>> (sh.toInt64.toUInt64 &&& Int64.toUInt64 63)).toInt64 &&& 255).toInt32
def okb (s : Int32) : Nat := if s = 10 ∨ (32 ≤ s ∧ s ≤ 126) then 1 else 0
def shl8 : Nat → Int32 := fun j => match j with
  | 0 => 56
  | 1 => 48
  | 2 => 40
  | 3 => 32
  | 4 => 24
  | 5 => 16
  | 6 => 8
  | _ => 0
/-- how many of the first j bytes are signs of the tape -/
def f8 (b : Int64) : Nat → Nat
  | 0 => 0
  | j + 1 => f8 b j + okb (sg b (shl8 j))
theorem okb_le (s : Int32) : okb s ≤ 1 := by unfold okb; split <;> omega
theorem f8_le (b : Int64) : ∀ j, f8 b j ≤ j
  | 0 => Nat.le_refl 0
  | j + 1 => by
    have h1 := f8_le b j
    have h2 := okb_le (sg b (shl8 j))
    show f8 b j + okb (sg b (shl8 j)) ≤ j + 1
    omega
theorem okb_eq {s : Int32} (h : s = 10) : okb s = 1 := by unfold okb; rw [if_pos (Or.inl h)]
theorem okb_in {s : Int32} (h1 : ¬ s < 32) (h2 : ¬ 126 < s) : okb s = 1 := by unfold okb; rw [if_pos (Or.inr ⟨Int32.not_lt.mp h1, Int32.not_lt.mp h2⟩)]
theorem okb_lo {s : Int32} (h : ¬ s = 10) (h1 : s < 32) : okb s = 0 := by
  unfold okb
  rw [if_neg]
  rintro (h2 | ⟨h2, -⟩)
  · exact h h2
  · exact absurd h1 (Int32.not_lt.mpr h2)
theorem okb_hi {s : Int32} (h : ¬ s = 10) (h1 : 126 < s) : okb s = 0 := by
  unfold okb
  rw [if_neg]
  rintro (h2 | ⟨-, h2⟩)
  · exact h h2
  · exact absurd h1 (Int32.not_lt.mpr h2)
theorem f8_up {b : Int64} {n0 n : Nat} (j : Nat) {s : Int32} (hn : n = n0 + f8 b j) (es : s = sg b (shl8 j)) (ho : okb s = 1) : n + 1 = n0 + f8 b (j + 1) := by
  show n + 1 = n0 + (f8 b j + okb (sg b (shl8 j)))
  rw [← es, ho]; omega
theorem f8_st {b : Int64} {n0 n : Nat} (j : Nat) {s : Int32} (hn : n = n0 + f8 b j) (es : s = sg b (shl8 j)) (ho : okb s = 0) : n = n0 + f8 b (j + 1) := by
  show n = n0 + (f8 b j + okb (sg b (shl8 j)))
  rw [← es, ho]; omega

theorem tb457 : (Jvm.Cond.constantLong "StairGang$Tokens" (47 : Nat) (255 : Int64)) ∈ gw := lw_m 457 (by decide +kernel)
theorem dX7_feedEight_0 : decode cX7_feedEight 0 = .ok (.bipush 56, 2) := by decide +kernel
theorem dX7_feedEight_2 : decode cX7_feedEight 2 = .ok (.istore_n 3, 1) := by decide +kernel
theorem dX7_feedEight_3 : decode cX7_feedEight 3 = .ok (.iload_n 3, 1) := by decide +kernel
theorem dX7_feedEight_4 : decode cX7_feedEight 4 = .ok (.ifCond .lt 84, 3) := by decide +kernel
theorem dX7_feedEight_7 : decode cX7_feedEight 7 = .ok (.lload_n 1, 1) := by decide +kernel
theorem dX7_feedEight_8 : decode cX7_feedEight 8 = .ok (.iload_n 3, 1) := by decide +kernel
theorem dX7_feedEight_9 : decode cX7_feedEight 9 = .ok (.lushr, 1) := by decide +kernel
theorem dX7_feedEight_10 : decode cX7_feedEight 10 = .ok (.ldc2_w 47, 3) := by decide +kernel
theorem dX7_feedEight_13 : decode cX7_feedEight 13 = .ok (.land, 1) := by decide +kernel
theorem dX7_feedEight_14 : decode cX7_feedEight 14 = .ok (.l2i, 1) := by decide +kernel
theorem dX7_feedEight_15 : decode cX7_feedEight 15 = .ok (.istore 4, 2) := by decide +kernel
theorem dX7_feedEight_17 : decode cX7_feedEight 17 = .ok (.iload 4, 2) := by decide +kernel
theorem dX7_feedEight_19 : decode cX7_feedEight 19 = .ok (.bipush 10, 2) := by decide +kernel
theorem dX7_feedEight_21 : decode cX7_feedEight 21 = .ok (.if_icmp .eq 17, 3) := by decide +kernel
theorem dX7_feedEight_24 : decode cX7_feedEight 24 = .ok (.iload 4, 2) := by decide +kernel
theorem dX7_feedEight_26 : decode cX7_feedEight 26 = .ok (.bipush 32, 2) := by decide +kernel
theorem dX7_feedEight_28 : decode cX7_feedEight 28 = .ok (.if_icmp .lt 14, 3) := by decide +kernel
theorem dX7_feedEight_31 : decode cX7_feedEight 31 = .ok (.iload 4, 2) := by decide +kernel
theorem dX7_feedEight_33 : decode cX7_feedEight 33 = .ok (.bipush 126, 2) := by decide +kernel
theorem dX7_feedEight_35 : decode cX7_feedEight 35 = .ok (.if_icmp .gt 7, 3) := by decide +kernel
theorem dX7_feedEight_38 : decode cX7_feedEight 38 = .ok (.iconst 1, 1) := by decide +kernel
theorem dX7_feedEight_39 : decode cX7_feedEight 39 = .ok (.goto 4, 3) := by decide +kernel
theorem dX7_feedEight_42 : decode cX7_feedEight 42 = .ok (.iconst 0, 1) := by decide +kernel
theorem dX7_feedEight_43 : decode cX7_feedEight 43 = .ok (.istore 5, 2) := by decide +kernel
theorem dX7_feedEight_45 : decode cX7_feedEight 45 = .ok (.iload 5, 2) := by decide +kernel
theorem dX7_feedEight_47 : decode cX7_feedEight 47 = .ok (.ifCond .eq 35, 3) := by decide +kernel
theorem dX7_feedEight_50 : decode cX7_feedEight 50 = .ok (.aload_n 0, 1) := by decide +kernel
theorem dX7_feedEight_51 : decode cX7_feedEight 51 = .ok (.getfield 49, 3) := by decide +kernel
theorem dX7_feedEight_54 : decode cX7_feedEight 54 = .ok (.sipush 1000, 3) := by decide +kernel
theorem dX7_feedEight_57 : decode cX7_feedEight 57 = .ok (.if_icmp .ge 25, 3) := by decide +kernel
theorem dX7_feedEight_60 : decode cX7_feedEight 60 = .ok (.aload_n 0, 1) := by decide +kernel
theorem dX7_feedEight_61 : decode cX7_feedEight 61 = .ok (.getfield 9, 3) := by decide +kernel
theorem dX7_feedEight_64 : decode cX7_feedEight 64 = .ok (.aload_n 0, 1) := by decide +kernel
theorem dX7_feedEight_65 : decode cX7_feedEight 65 = .ok (.getfield 49, 3) := by decide +kernel
theorem dX7_feedEight_68 : decode cX7_feedEight 68 = .ok (.iload 4, 2) := by decide +kernel
theorem dX7_feedEight_70 : decode cX7_feedEight 70 = .ok (.i2c, 1) := by decide +kernel
theorem dX7_feedEight_71 : decode cX7_feedEight 71 = .ok (.castore, 1) := by decide +kernel
theorem dX7_feedEight_72 : decode cX7_feedEight 72 = .ok (.aload_n 0, 1) := by decide +kernel
theorem dX7_feedEight_73 : decode cX7_feedEight 73 = .ok (.dup, 1) := by decide +kernel
theorem dX7_feedEight_74 : decode cX7_feedEight 74 = .ok (.getfield 49, 3) := by decide +kernel
theorem dX7_feedEight_77 : decode cX7_feedEight 77 = .ok (.iconst 1, 1) := by decide +kernel
theorem dX7_feedEight_78 : decode cX7_feedEight 78 = .ok (.iadd, 1) := by decide +kernel
theorem dX7_feedEight_79 : decode cX7_feedEight 79 = .ok (.putfield 49, 3) := by decide +kernel
theorem dX7_feedEight_82 : decode cX7_feedEight 82 = .ok (.iinc 3 (-8), 3) := by decide +kernel
theorem dX7_feedEight_85 : decode cX7_feedEight 85 = .ok (.goto (-82), 3) := by decide +kernel
theorem dX7_feedEight_88 : decode cX7_feedEight 88 = .ok (.return_, 1) := by decide +kernel
set_option maxHeartbeats 4000000 in
set_option maxRecDepth 100000 in
theorem k_feed8 (l : Launch) (g : va_G) (aC : Nat → ClassId) (aM : Nat → Nat) (h0 h1 : Nat) (x1 x2 x3 x4 x5 x6 x7 x8 : Value) (f0 : Nat → Int32) (m_1 : Int64) (n0 : Nat) (hn0 : n0 ≤ 16) : Ct l g aC aM yX7_feedEight cX7_feedEight 6 none 1 [.ref h0, .long m_1] [(h0, .inr (7, [.int (nI n0), x1, .ref h1, x2, x3, x4, x5, x6, x7, x8])), (h1, .inl (aC 2, 1000, .inl f0))] (QV g (fun (u : Nat → Int32) => True) (fun (u : Nat → Int32) => [(h0, .inr (7, [.int (nI (n0 + f8 m_1 8)), x1, .ref h1, x2, x3, x4, x5, x6, x7, x8])), (h1, .inl (aC 2, 1000, .inl u))])) 0 0 := by
  refine Ct.mk (by decide) (Nat.le_of_ble_eq_true rfl) ?_
  intro p e s m below meth c A ls hx hb hml hown hts hr hlk hnm hK hA hM hM2 hP hD hS hl
  have hown : s.vm.findClass RX7 = some m.cls := hown
  have F : Fx p s m _ c cX7_feedEight 6 RX7 g aC aM A := ⟨hx, hb, hml, hown, hts, hK, hA, hM, hM2⟩
  have hl : lv_has ls 6 [(0, .ref h0), (1, .long m_1)] := hl
  refine lv_bipush (v := 56) hx hb dX7_feedEight_0 (by decide) ?_
  refine lv_istore_n (lv' := [(3, .int 56), (0, .ref h0), (1, .long m_1)]) hx hb dX7_feedEight_2 rfl hl (by decide) rfl (fun ls hl => ?_)
  have hc8 : ∀ (n : Nat) (f : Nat → Int32) (H : Heap) (locs : List Loc) (ls : Array Slot), n = n0 + f8 m_1 8 → n ≤ 24 → va_P g vwCl [(h0, .inr (7, [.int (nI n), x1, .ref h1, x2, x3, x4, x5, x6, x7, x8])), (h1, .inl (aC 2, 1000, .inl f))] H → va_D A [(h0, .inr (7, [.int (nI n), x1, .ref h1, x2, x3, x4, x5, x6, x7, x8])), (h1, .inl (aC 2, 1000, .inl f))] → va_S A s.heap H locs → lv_has ls 6 [(3, .int (-8)), (0, .ref h0), (1, .long m_1)] → W p l e (rmL 1 0 0) s m [.ref h0, .long m_1].toArray below meth c H locs 0 0 (MQ below (QV g (fun (u : Nat → Int32) => True) (fun (u : Nat → Int32) => [(h0, .inr (7, [.int (nI (n0 + f8 m_1 8)), x1, .ref h1, x2, x3, x4, x5, x6, x7, x8])), (h1, .inl (aC 2, 1000, .inl u))]) A) [.ref h0, .long m_1].toArray s 0 0 A) (F0 m 3 ls []) := by
    intro n f H locs ls hn hb_ hP hD hS hl
    subst hn
    refine lv_iload_n hx hb dX7_feedEight_3 rfl (lv_at hl 0 rfl) ?_
    refine lv_if_lt (tgt := 88) hx hb dX7_feedEight_4 (by decide) (fun _ => ?_) (fun c_ => absurd (by decide +kernel) c_)
    have hP9 := hP.sub (ws' := [(h0, .inr (7, [.int (nI (n0 + f8 m_1 8)), x1, .ref h1, x2, x3, x4, x5, x6, x7, x8])), (h1, .inl (aC 2, 1000, .inl f))]) [0, 1] rfl
    have hD9 := hD.sub (ws' := [(h0, .inr (7, [.int (nI (n0 + f8 m_1 8)), x1, .ref h1, x2, x3, x4, x5, x6, x7, x8])), (h1, .inl (aC 2, 1000, .inl f))]) [0, 1] (by decide) rfl
    exact rV f hx hb hr hlk hS trivial hP9 hD9 (Nat.le_of_ble_eq_true rfl) (Nat.le_of_ble_eq_true rfl) dX7_feedEight_88
  have hc7 : ∀ (n : Nat) (f : Nat → Int32) (H : Heap) (locs : List Loc) (ls : Array Slot), n = n0 + f8 m_1 7 → n ≤ 23 → va_P g vwCl [(h0, .inr (7, [.int (nI n), x1, .ref h1, x2, x3, x4, x5, x6, x7, x8])), (h1, .inl (aC 2, 1000, .inl f))] H → va_D A [(h0, .inr (7, [.int (nI n), x1, .ref h1, x2, x3, x4, x5, x6, x7, x8])), (h1, .inl (aC 2, 1000, .inl f))] → va_S A s.heap H locs → lv_has ls 6 [(3, .int 0), (0, .ref h0), (1, .long m_1)] → W p l e (rmL 1 0 0) s m [.ref h0, .long m_1].toArray below meth c H locs 0 0 (MQ below (QV g (fun (u : Nat → Int32) => True) (fun (u : Nat → Int32) => [(h0, .inr (7, [.int (nI (n0 + f8 m_1 8)), x1, .ref h1, x2, x3, x4, x5, x6, x7, x8])), (h1, .inl (aC 2, 1000, .inl u))]) A) [.ref h0, .long m_1].toArray s 0 0 A) (F0 m 3 ls []) := by
    intro n f H locs ls hn hb_ hP hD hS hl
    refine lv_iload_n hx hb dX7_feedEight_3 rfl (lv_at hl 0 rfl) ?_
    refine lv_if_lt (tgt := 88) hx hb dX7_feedEight_4 (by decide) (fun c_ => absurd c_ (by decide +kernel)) (fun _ => ?_)
    refine lv_lload_n hx hb dX7_feedEight_7 rfl (lv_at hl 2 rfl) ?_
    refine lv_iload_n hx hb dX7_feedEight_8 rfl (lv_at hl 0 rfl) ?_
    refine lv_lushr (v := ((m_1.toUInt64 >>> ((0 : Int32).toInt64.toUInt64 &&& Int64.toUInt64 63)).toInt64)) hx hb dX7_feedEight_9 rfl ?_
    refine lv_ldc2 (v := 255) hx hb hown (hts _ tb457) dX7_feedEight_10 ?_
    refine lv_land hx hb dX7_feedEight_13 ?_
    refine lv_l2i (v := ((((m_1.toUInt64 >>> ((0 : Int32).toInt64.toUInt64 &&& Int64.toUInt64 63)).toInt64) &&& 255).toInt32)) hx hb dX7_feedEight_14 rfl ?_
    obtain ⟨Sv, eSv⟩ : ∃ z : Int32, z = ((((m_1.toUInt64 >>> ((0 : Int32).toInt64.toUInt64 &&& Int64.toUInt64 63)).toInt64) &&& 255).toInt32) := ⟨_, rfl⟩
    refine relit (v := Sv) eSv.symm ?_
    refine lv_istore (lv' := [(4, .int Sv), (3, .int 0), (0, .ref h0), (1, .long m_1)]) hx hb dX7_feedEight_15 hl (by decide) rfl (fun ls hl => ?_)
    refine lv_iload hx hb dX7_feedEight_17 (lv_at hl 0 rfl) ?_
    refine lv_bipush (v := 10) hx hb dX7_feedEight_19 (by decide) ?_
    refine lv_icmp_eq (tgt := 38) hx hb dX7_feedEight_21 (by decide) (fun c3 => ?_) (fun c3 => ?_)
    · refine lv_iconst (v := 1) hx hb dX7_feedEight_38 (by decide) ?_
      refine lv_goto (tgt := 43) hx hb dX7_feedEight_39 (by decide) ?_
      refine lv_istore (lv' := [(5, .int 1), (4, .int Sv), (3, .int 0), (0, .ref h0), (1, .long m_1)]) hx hb dX7_feedEight_43 hl (by decide) rfl (fun ls hl => ?_)
      refine lv_iload hx hb dX7_feedEight_45 (lv_at hl 0 rfl) ?_
      refine lv_if_eq (tgt := 82) hx hb dX7_feedEight_47 (by decide) (fun c_ => absurd c_ (by decide +kernel)) (fun _ => ?_)
      refine lv_aload_n hx hb dX7_feedEight_50 rfl (lv_at hl 3 rfl) ?_
      refine xget F hP 0 rfl rfl inX7 0 (by decide) tb102 rfl dX7_feedEight_51 ?_
      refine lv_sipush (v := 1000) hx hb dX7_feedEight_54 (by decide) ?_
      refine lv_icmp_ge (tgt := 82) hx hb dX7_feedEight_57 (by decide) (fun c_ => absurd c_ (show ¬ (nI 1000 ≤ nI n) by rw [nI_leI (by omega) (by omega)]; omega)) (fun _ => ?_)
      refine lv_aload_n hx hb dX7_feedEight_60 rfl (lv_at hl 3 rfl) ?_
      refine xget F hP 0 rfl rfl inX7 2 (by decide) tb106 rfl dX7_feedEight_61 ?_
      refine lv_aload_n hx hb dX7_feedEight_64 rfl (lv_at hl 3 rfl) ?_
      refine xget F hP 0 rfl rfl inX7 0 (by decide) tb102 rfl dX7_feedEight_65 ?_
      refine lv_iload hx hb dX7_feedEight_68 (lv_at hl 1 rfl) ?_
      refine lv_i2c (v := ((Sv.toUInt32 % 65536).toInt32)) hx hb dX7_feedEight_70 rfl ?_
      refine xcstE F hP hD hS 1 rfl n (nI_pos (by omega)) (nI_clamp (by omega)) (by omega) dX7_feedEight_71 (fun f_5 H locs hP hD hS => ?_)
      have hP : va_P g vwCl [(h0, .inr (7, [.int (nI n), x1, .ref h1, x2, x3, x4, x5, x6, x7, x8])), (h1, .inl (aC 2, 1000, .inl f_5))] H := hP
      have hD : va_D A [(h0, .inr (7, [.int (nI n), x1, .ref h1, x2, x3, x4, x5, x6, x7, x8])), (h1, .inl (aC 2, 1000, .inl f_5))] := hD
      refine lv_aload_n hx hb dX7_feedEight_72 rfl (lv_at hl 3 rfl) ?_
      refine lv_dup hx hb dX7_feedEight_73 rfl ?_
      refine xget F hP 0 rfl rfl inX7 0 (by decide) tb102 rfl dX7_feedEight_74 ?_
      refine lv_iconst (v := 1) hx hb dX7_feedEight_77 (by decide) ?_
      refine lv_iadd hx hb dX7_feedEight_78 ?_
      refine relit (v := (nI (n + 1))) (nadd (a := n) (b := 1) (by omega)) ?_
      refine xput F hP hD hS 0 rfl rfl inX7 tyX7_ok nmX7 0 (by decide) tb102 rfl rfl rfl (Nat.le_of_ble_eq_true rfl) dX7_feedEight_79 (fun H locs hP hD hS => ?_)
      have hP : va_P g vwCl [(h0, .inr (7, [.int (nI (n + 1)), x1, .ref h1, x2, x3, x4, x5, x6, x7, x8])), (h1, .inl (aC 2, 1000, .inl f_5))] H := hP
      have hD : va_D A [(h0, .inr (7, [.int (nI (n + 1)), x1, .ref h1, x2, x3, x4, x5, x6, x7, x8])), (h1, .inl (aC 2, 1000, .inl f_5))] := hD
      refine lv_iinc (v := (-8)) (lv' := [(3, .int (-8)), (5, .int 1), (4, .int Sv), (0, .ref h0), (1, .long m_1)]) hx hb dX7_feedEight_82 hl (k := 2) rfl (by decide +kernel) (by decide) rfl (fun ls hl => ?_)
      refine lv_goto (tgt := 3) hx hb dX7_feedEight_85 (by decide) ?_
      exact hc8 (n + 1) f_5 _ _ _ (f8_up 7 hn eSv (okb_eq c3)) (by omega) (hP.sub [0, 1] rfl) (hD.sub [0, 1] (by decide) rfl) hS (lv_sub hl [0, 3, 4] rfl)
    · refine lv_iload hx hb dX7_feedEight_24 (lv_at hl 0 rfl) ?_
      refine lv_bipush (v := 32) hx hb dX7_feedEight_26 (by decide) ?_
      refine lv_icmp_lt (tgt := 42) hx hb dX7_feedEight_28 (by decide) (fun c6 => ?_) (fun c6 => ?_)
      · refine lv_iconst (v := 0) hx hb dX7_feedEight_42 (by decide) ?_
        refine lv_istore (lv' := [(5, .int 0), (4, .int Sv), (3, .int 0), (0, .ref h0), (1, .long m_1)]) hx hb dX7_feedEight_43 hl (by decide) rfl (fun ls hl => ?_)
        refine lv_iload hx hb dX7_feedEight_45 (lv_at hl 0 rfl) ?_
        refine lv_if_eq (tgt := 82) hx hb dX7_feedEight_47 (by decide) (fun _ => ?_) (fun c_ => absurd (by decide +kernel) c_)
        refine lv_iinc (v := (-8)) (lv' := [(3, .int (-8)), (5, .int 0), (4, .int Sv), (0, .ref h0), (1, .long m_1)]) hx hb dX7_feedEight_82 hl (k := 2) rfl (by decide +kernel) (by decide) rfl (fun ls hl => ?_)
        refine lv_goto (tgt := 3) hx hb dX7_feedEight_85 (by decide) ?_
        exact hc8 (n) f _ _ _ (f8_st 7 hn eSv (okb_lo c3 c6)) (by omega) (hP.sub [0, 1] rfl) (hD.sub [0, 1] (by decide) rfl) hS (lv_sub hl [0, 3, 4] rfl)
      · refine lv_iload hx hb dX7_feedEight_31 (lv_at hl 0 rfl) ?_
        refine lv_bipush (v := 126) hx hb dX7_feedEight_33 (by decide) ?_
        refine lv_icmp_gt (tgt := 42) hx hb dX7_feedEight_35 (by decide) (fun c8 => ?_) (fun c8 => ?_)
        · refine lv_iconst (v := 0) hx hb dX7_feedEight_42 (by decide) ?_
          refine lv_istore (lv' := [(5, .int 0), (4, .int Sv), (3, .int 0), (0, .ref h0), (1, .long m_1)]) hx hb dX7_feedEight_43 hl (by decide) rfl (fun ls hl => ?_)
          refine lv_iload hx hb dX7_feedEight_45 (lv_at hl 0 rfl) ?_
          refine lv_if_eq (tgt := 82) hx hb dX7_feedEight_47 (by decide) (fun _ => ?_) (fun c_ => absurd (by decide +kernel) c_)
          refine lv_iinc (v := (-8)) (lv' := [(3, .int (-8)), (5, .int 0), (4, .int Sv), (0, .ref h0), (1, .long m_1)]) hx hb dX7_feedEight_82 hl (k := 2) rfl (by decide +kernel) (by decide) rfl (fun ls hl => ?_)
          refine lv_goto (tgt := 3) hx hb dX7_feedEight_85 (by decide) ?_
          exact hc8 (n) f _ _ _ (f8_st 7 hn eSv (okb_hi c3 c8)) (by omega) (hP.sub [0, 1] rfl) (hD.sub [0, 1] (by decide) rfl) hS (lv_sub hl [0, 3, 4] rfl)
        · refine lv_iconst (v := 1) hx hb dX7_feedEight_38 (by decide) ?_
          refine lv_goto (tgt := 43) hx hb dX7_feedEight_39 (by decide) ?_
          refine lv_istore (lv' := [(5, .int 1), (4, .int Sv), (3, .int 0), (0, .ref h0), (1, .long m_1)]) hx hb dX7_feedEight_43 hl (by decide) rfl (fun ls hl => ?_)
          refine lv_iload hx hb dX7_feedEight_45 (lv_at hl 0 rfl) ?_
          refine lv_if_eq (tgt := 82) hx hb dX7_feedEight_47 (by decide) (fun c_ => absurd c_ (by decide +kernel)) (fun _ => ?_)
          refine lv_aload_n hx hb dX7_feedEight_50 rfl (lv_at hl 3 rfl) ?_
          refine xget F hP 0 rfl rfl inX7 0 (by decide) tb102 rfl dX7_feedEight_51 ?_
          refine lv_sipush (v := 1000) hx hb dX7_feedEight_54 (by decide) ?_
          refine lv_icmp_ge (tgt := 82) hx hb dX7_feedEight_57 (by decide) (fun c_ => absurd c_ (show ¬ (nI 1000 ≤ nI n) by rw [nI_leI (by omega) (by omega)]; omega)) (fun _ => ?_)
          refine lv_aload_n hx hb dX7_feedEight_60 rfl (lv_at hl 3 rfl) ?_
          refine xget F hP 0 rfl rfl inX7 2 (by decide) tb106 rfl dX7_feedEight_61 ?_
          refine lv_aload_n hx hb dX7_feedEight_64 rfl (lv_at hl 3 rfl) ?_
          refine xget F hP 0 rfl rfl inX7 0 (by decide) tb102 rfl dX7_feedEight_65 ?_
          refine lv_iload hx hb dX7_feedEight_68 (lv_at hl 1 rfl) ?_
          refine lv_i2c (v := ((Sv.toUInt32 % 65536).toInt32)) hx hb dX7_feedEight_70 rfl ?_
          refine xcstE F hP hD hS 1 rfl n (nI_pos (by omega)) (nI_clamp (by omega)) (by omega) dX7_feedEight_71 (fun f_11 H locs hP hD hS => ?_)
          have hP : va_P g vwCl [(h0, .inr (7, [.int (nI n), x1, .ref h1, x2, x3, x4, x5, x6, x7, x8])), (h1, .inl (aC 2, 1000, .inl f_11))] H := hP
          have hD : va_D A [(h0, .inr (7, [.int (nI n), x1, .ref h1, x2, x3, x4, x5, x6, x7, x8])), (h1, .inl (aC 2, 1000, .inl f_11))] := hD
          refine lv_aload_n hx hb dX7_feedEight_72 rfl (lv_at hl 3 rfl) ?_
          refine lv_dup hx hb dX7_feedEight_73 rfl ?_
          refine xget F hP 0 rfl rfl inX7 0 (by decide) tb102 rfl dX7_feedEight_74 ?_
          refine lv_iconst (v := 1) hx hb dX7_feedEight_77 (by decide) ?_
          refine lv_iadd hx hb dX7_feedEight_78 ?_
          refine relit (v := (nI (n + 1))) (nadd (a := n) (b := 1) (by omega)) ?_
          refine xput F hP hD hS 0 rfl rfl inX7 tyX7_ok nmX7 0 (by decide) tb102 rfl rfl rfl (Nat.le_of_ble_eq_true rfl) dX7_feedEight_79 (fun H locs hP hD hS => ?_)
          have hP : va_P g vwCl [(h0, .inr (7, [.int (nI (n + 1)), x1, .ref h1, x2, x3, x4, x5, x6, x7, x8])), (h1, .inl (aC 2, 1000, .inl f_11))] H := hP
          have hD : va_D A [(h0, .inr (7, [.int (nI (n + 1)), x1, .ref h1, x2, x3, x4, x5, x6, x7, x8])), (h1, .inl (aC 2, 1000, .inl f_11))] := hD
          refine lv_iinc (v := (-8)) (lv' := [(3, .int (-8)), (5, .int 1), (4, .int Sv), (0, .ref h0), (1, .long m_1)]) hx hb dX7_feedEight_82 hl (k := 2) rfl (by decide +kernel) (by decide) rfl (fun ls hl => ?_)
          refine lv_goto (tgt := 3) hx hb dX7_feedEight_85 (by decide) ?_
          exact hc8 (n + 1) f_11 _ _ _ (f8_up 7 hn eSv (okb_in c6 c8)) (by omega) (hP.sub [0, 1] rfl) (hD.sub [0, 1] (by decide) rfl) hS (lv_sub hl [0, 3, 4] rfl)
  have hc6 : ∀ (n : Nat) (f : Nat → Int32) (H : Heap) (locs : List Loc) (ls : Array Slot), n = n0 + f8 m_1 6 → n ≤ 22 → va_P g vwCl [(h0, .inr (7, [.int (nI n), x1, .ref h1, x2, x3, x4, x5, x6, x7, x8])), (h1, .inl (aC 2, 1000, .inl f))] H → va_D A [(h0, .inr (7, [.int (nI n), x1, .ref h1, x2, x3, x4, x5, x6, x7, x8])), (h1, .inl (aC 2, 1000, .inl f))] → va_S A s.heap H locs → lv_has ls 6 [(3, .int 8), (0, .ref h0), (1, .long m_1)] → W p l e (rmL 1 0 0) s m [.ref h0, .long m_1].toArray below meth c H locs 0 0 (MQ below (QV g (fun (u : Nat → Int32) => True) (fun (u : Nat → Int32) => [(h0, .inr (7, [.int (nI (n0 + f8 m_1 8)), x1, .ref h1, x2, x3, x4, x5, x6, x7, x8])), (h1, .inl (aC 2, 1000, .inl u))]) A) [.ref h0, .long m_1].toArray s 0 0 A) (F0 m 3 ls []) := by
    intro n f H locs ls hn hb_ hP hD hS hl
    refine lv_iload_n hx hb dX7_feedEight_3 rfl (lv_at hl 0 rfl) ?_
    refine lv_if_lt (tgt := 88) hx hb dX7_feedEight_4 (by decide) (fun c_ => absurd c_ (by decide +kernel)) (fun _ => ?_)
    refine lv_lload_n hx hb dX7_feedEight_7 rfl (lv_at hl 2 rfl) ?_
    refine lv_iload_n hx hb dX7_feedEight_8 rfl (lv_at hl 0 rfl) ?_
    refine lv_lushr (v := ((m_1.toUInt64 >>> ((8 : Int32).toInt64.toUInt64 &&& Int64.toUInt64 63)).toInt64)) hx hb dX7_feedEight_9 rfl ?_
    refine lv_ldc2 (v := 255) hx hb hown (hts _ tb457) dX7_feedEight_10 ?_
    refine lv_land hx hb dX7_feedEight_13 ?_
    refine lv_l2i (v := ((((m_1.toUInt64 >>> ((8 : Int32).toInt64.toUInt64 &&& Int64.toUInt64 63)).toInt64) &&& 255).toInt32)) hx hb dX7_feedEight_14 rfl ?_
    obtain ⟨Sv, eSv⟩ : ∃ z : Int32, z = ((((m_1.toUInt64 >>> ((8 : Int32).toInt64.toUInt64 &&& Int64.toUInt64 63)).toInt64) &&& 255).toInt32) := ⟨_, rfl⟩
    refine relit (v := Sv) eSv.symm ?_
    refine lv_istore (lv' := [(4, .int Sv), (3, .int 8), (0, .ref h0), (1, .long m_1)]) hx hb dX7_feedEight_15 hl (by decide) rfl (fun ls hl => ?_)
    refine lv_iload hx hb dX7_feedEight_17 (lv_at hl 0 rfl) ?_
    refine lv_bipush (v := 10) hx hb dX7_feedEight_19 (by decide) ?_
    refine lv_icmp_eq (tgt := 38) hx hb dX7_feedEight_21 (by decide) (fun c13 => ?_) (fun c13 => ?_)
    · refine lv_iconst (v := 1) hx hb dX7_feedEight_38 (by decide) ?_
      refine lv_goto (tgt := 43) hx hb dX7_feedEight_39 (by decide) ?_
      refine lv_istore (lv' := [(5, .int 1), (4, .int Sv), (3, .int 8), (0, .ref h0), (1, .long m_1)]) hx hb dX7_feedEight_43 hl (by decide) rfl (fun ls hl => ?_)
      refine lv_iload hx hb dX7_feedEight_45 (lv_at hl 0 rfl) ?_
      refine lv_if_eq (tgt := 82) hx hb dX7_feedEight_47 (by decide) (fun c_ => absurd c_ (by decide +kernel)) (fun _ => ?_)
      refine lv_aload_n hx hb dX7_feedEight_50 rfl (lv_at hl 3 rfl) ?_
      refine xget F hP 0 rfl rfl inX7 0 (by decide) tb102 rfl dX7_feedEight_51 ?_
      refine lv_sipush (v := 1000) hx hb dX7_feedEight_54 (by decide) ?_
      refine lv_icmp_ge (tgt := 82) hx hb dX7_feedEight_57 (by decide) (fun c_ => absurd c_ (show ¬ (nI 1000 ≤ nI n) by rw [nI_leI (by omega) (by omega)]; omega)) (fun _ => ?_)
      refine lv_aload_n hx hb dX7_feedEight_60 rfl (lv_at hl 3 rfl) ?_
      refine xget F hP 0 rfl rfl inX7 2 (by decide) tb106 rfl dX7_feedEight_61 ?_
      refine lv_aload_n hx hb dX7_feedEight_64 rfl (lv_at hl 3 rfl) ?_
      refine xget F hP 0 rfl rfl inX7 0 (by decide) tb102 rfl dX7_feedEight_65 ?_
      refine lv_iload hx hb dX7_feedEight_68 (lv_at hl 1 rfl) ?_
      refine lv_i2c (v := ((Sv.toUInt32 % 65536).toInt32)) hx hb dX7_feedEight_70 rfl ?_
      refine xcstE F hP hD hS 1 rfl n (nI_pos (by omega)) (nI_clamp (by omega)) (by omega) dX7_feedEight_71 (fun f_15 H locs hP hD hS => ?_)
      have hP : va_P g vwCl [(h0, .inr (7, [.int (nI n), x1, .ref h1, x2, x3, x4, x5, x6, x7, x8])), (h1, .inl (aC 2, 1000, .inl f_15))] H := hP
      have hD : va_D A [(h0, .inr (7, [.int (nI n), x1, .ref h1, x2, x3, x4, x5, x6, x7, x8])), (h1, .inl (aC 2, 1000, .inl f_15))] := hD
      refine lv_aload_n hx hb dX7_feedEight_72 rfl (lv_at hl 3 rfl) ?_
      refine lv_dup hx hb dX7_feedEight_73 rfl ?_
      refine xget F hP 0 rfl rfl inX7 0 (by decide) tb102 rfl dX7_feedEight_74 ?_
      refine lv_iconst (v := 1) hx hb dX7_feedEight_77 (by decide) ?_
      refine lv_iadd hx hb dX7_feedEight_78 ?_
      refine relit (v := (nI (n + 1))) (nadd (a := n) (b := 1) (by omega)) ?_
      refine xput F hP hD hS 0 rfl rfl inX7 tyX7_ok nmX7 0 (by decide) tb102 rfl rfl rfl (Nat.le_of_ble_eq_true rfl) dX7_feedEight_79 (fun H locs hP hD hS => ?_)
      have hP : va_P g vwCl [(h0, .inr (7, [.int (nI (n + 1)), x1, .ref h1, x2, x3, x4, x5, x6, x7, x8])), (h1, .inl (aC 2, 1000, .inl f_15))] H := hP
      have hD : va_D A [(h0, .inr (7, [.int (nI (n + 1)), x1, .ref h1, x2, x3, x4, x5, x6, x7, x8])), (h1, .inl (aC 2, 1000, .inl f_15))] := hD
      refine lv_iinc (v := 0) (lv' := [(3, .int 0), (5, .int 1), (4, .int Sv), (0, .ref h0), (1, .long m_1)]) hx hb dX7_feedEight_82 hl (k := 2) rfl (by decide +kernel) (by decide) rfl (fun ls hl => ?_)
      refine lv_goto (tgt := 3) hx hb dX7_feedEight_85 (by decide) ?_
      exact hc7 (n + 1) f_15 _ _ _ (f8_up 6 hn eSv (okb_eq c13)) (by omega) (hP.sub [0, 1] rfl) (hD.sub [0, 1] (by decide) rfl) hS (lv_sub hl [0, 3, 4] rfl)
    · refine lv_iload hx hb dX7_feedEight_24 (lv_at hl 0 rfl) ?_
      refine lv_bipush (v := 32) hx hb dX7_feedEight_26 (by decide) ?_
      refine lv_icmp_lt (tgt := 42) hx hb dX7_feedEight_28 (by decide) (fun c16 => ?_) (fun c16 => ?_)
      · refine lv_iconst (v := 0) hx hb dX7_feedEight_42 (by decide) ?_
        refine lv_istore (lv' := [(5, .int 0), (4, .int Sv), (3, .int 8), (0, .ref h0), (1, .long m_1)]) hx hb dX7_feedEight_43 hl (by decide) rfl (fun ls hl => ?_)
        refine lv_iload hx hb dX7_feedEight_45 (lv_at hl 0 rfl) ?_
        refine lv_if_eq (tgt := 82) hx hb dX7_feedEight_47 (by decide) (fun _ => ?_) (fun c_ => absurd (by decide +kernel) c_)
        refine lv_iinc (v := 0) (lv' := [(3, .int 0), (5, .int 0), (4, .int Sv), (0, .ref h0), (1, .long m_1)]) hx hb dX7_feedEight_82 hl (k := 2) rfl (by decide +kernel) (by decide) rfl (fun ls hl => ?_)
        refine lv_goto (tgt := 3) hx hb dX7_feedEight_85 (by decide) ?_
        exact hc7 (n) f _ _ _ (f8_st 6 hn eSv (okb_lo c13 c16)) (by omega) (hP.sub [0, 1] rfl) (hD.sub [0, 1] (by decide) rfl) hS (lv_sub hl [0, 3, 4] rfl)
      · refine lv_iload hx hb dX7_feedEight_31 (lv_at hl 0 rfl) ?_
        refine lv_bipush (v := 126) hx hb dX7_feedEight_33 (by decide) ?_
        refine lv_icmp_gt (tgt := 42) hx hb dX7_feedEight_35 (by decide) (fun c18 => ?_) (fun c18 => ?_)
        · refine lv_iconst (v := 0) hx hb dX7_feedEight_42 (by decide) ?_
          refine lv_istore (lv' := [(5, .int 0), (4, .int Sv), (3, .int 8), (0, .ref h0), (1, .long m_1)]) hx hb dX7_feedEight_43 hl (by decide) rfl (fun ls hl => ?_)
          refine lv_iload hx hb dX7_feedEight_45 (lv_at hl 0 rfl) ?_
          refine lv_if_eq (tgt := 82) hx hb dX7_feedEight_47 (by decide) (fun _ => ?_) (fun c_ => absurd (by decide +kernel) c_)
          refine lv_iinc (v := 0) (lv' := [(3, .int 0), (5, .int 0), (4, .int Sv), (0, .ref h0), (1, .long m_1)]) hx hb dX7_feedEight_82 hl (k := 2) rfl (by decide +kernel) (by decide) rfl (fun ls hl => ?_)
          refine lv_goto (tgt := 3) hx hb dX7_feedEight_85 (by decide) ?_
          exact hc7 (n) f _ _ _ (f8_st 6 hn eSv (okb_hi c13 c18)) (by omega) (hP.sub [0, 1] rfl) (hD.sub [0, 1] (by decide) rfl) hS (lv_sub hl [0, 3, 4] rfl)
        · refine lv_iconst (v := 1) hx hb dX7_feedEight_38 (by decide) ?_
          refine lv_goto (tgt := 43) hx hb dX7_feedEight_39 (by decide) ?_
          refine lv_istore (lv' := [(5, .int 1), (4, .int Sv), (3, .int 8), (0, .ref h0), (1, .long m_1)]) hx hb dX7_feedEight_43 hl (by decide) rfl (fun ls hl => ?_)
          refine lv_iload hx hb dX7_feedEight_45 (lv_at hl 0 rfl) ?_
          refine lv_if_eq (tgt := 82) hx hb dX7_feedEight_47 (by decide) (fun c_ => absurd c_ (by decide +kernel)) (fun _ => ?_)
          refine lv_aload_n hx hb dX7_feedEight_50 rfl (lv_at hl 3 rfl) ?_
          refine xget F hP 0 rfl rfl inX7 0 (by decide) tb102 rfl dX7_feedEight_51 ?_
          refine lv_sipush (v := 1000) hx hb dX7_feedEight_54 (by decide) ?_
          refine lv_icmp_ge (tgt := 82) hx hb dX7_feedEight_57 (by decide) (fun c_ => absurd c_ (show ¬ (nI 1000 ≤ nI n) by rw [nI_leI (by omega) (by omega)]; omega)) (fun _ => ?_)
          refine lv_aload_n hx hb dX7_feedEight_60 rfl (lv_at hl 3 rfl) ?_
          refine xget F hP 0 rfl rfl inX7 2 (by decide) tb106 rfl dX7_feedEight_61 ?_
          refine lv_aload_n hx hb dX7_feedEight_64 rfl (lv_at hl 3 rfl) ?_
          refine xget F hP 0 rfl rfl inX7 0 (by decide) tb102 rfl dX7_feedEight_65 ?_
          refine lv_iload hx hb dX7_feedEight_68 (lv_at hl 1 rfl) ?_
          refine lv_i2c (v := ((Sv.toUInt32 % 65536).toInt32)) hx hb dX7_feedEight_70 rfl ?_
          refine xcstE F hP hD hS 1 rfl n (nI_pos (by omega)) (nI_clamp (by omega)) (by omega) dX7_feedEight_71 (fun f_21 H locs hP hD hS => ?_)
          have hP : va_P g vwCl [(h0, .inr (7, [.int (nI n), x1, .ref h1, x2, x3, x4, x5, x6, x7, x8])), (h1, .inl (aC 2, 1000, .inl f_21))] H := hP
          have hD : va_D A [(h0, .inr (7, [.int (nI n), x1, .ref h1, x2, x3, x4, x5, x6, x7, x8])), (h1, .inl (aC 2, 1000, .inl f_21))] := hD
          refine lv_aload_n hx hb dX7_feedEight_72 rfl (lv_at hl 3 rfl) ?_
          refine lv_dup hx hb dX7_feedEight_73 rfl ?_
          refine xget F hP 0 rfl rfl inX7 0 (by decide) tb102 rfl dX7_feedEight_74 ?_
          refine lv_iconst (v := 1) hx hb dX7_feedEight_77 (by decide) ?_
          refine lv_iadd hx hb dX7_feedEight_78 ?_
          refine relit (v := (nI (n + 1))) (nadd (a := n) (b := 1) (by omega)) ?_
          refine xput F hP hD hS 0 rfl rfl inX7 tyX7_ok nmX7 0 (by decide) tb102 rfl rfl rfl (Nat.le_of_ble_eq_true rfl) dX7_feedEight_79 (fun H locs hP hD hS => ?_)
          have hP : va_P g vwCl [(h0, .inr (7, [.int (nI (n + 1)), x1, .ref h1, x2, x3, x4, x5, x6, x7, x8])), (h1, .inl (aC 2, 1000, .inl f_21))] H := hP
          have hD : va_D A [(h0, .inr (7, [.int (nI (n + 1)), x1, .ref h1, x2, x3, x4, x5, x6, x7, x8])), (h1, .inl (aC 2, 1000, .inl f_21))] := hD
          refine lv_iinc (v := 0) (lv' := [(3, .int 0), (5, .int 1), (4, .int Sv), (0, .ref h0), (1, .long m_1)]) hx hb dX7_feedEight_82 hl (k := 2) rfl (by decide +kernel) (by decide) rfl (fun ls hl => ?_)
          refine lv_goto (tgt := 3) hx hb dX7_feedEight_85 (by decide) ?_
          exact hc7 (n + 1) f_21 _ _ _ (f8_up 6 hn eSv (okb_in c16 c18)) (by omega) (hP.sub [0, 1] rfl) (hD.sub [0, 1] (by decide) rfl) hS (lv_sub hl [0, 3, 4] rfl)
  have hc5 : ∀ (n : Nat) (f : Nat → Int32) (H : Heap) (locs : List Loc) (ls : Array Slot), n = n0 + f8 m_1 5 → n ≤ 21 → va_P g vwCl [(h0, .inr (7, [.int (nI n), x1, .ref h1, x2, x3, x4, x5, x6, x7, x8])), (h1, .inl (aC 2, 1000, .inl f))] H → va_D A [(h0, .inr (7, [.int (nI n), x1, .ref h1, x2, x3, x4, x5, x6, x7, x8])), (h1, .inl (aC 2, 1000, .inl f))] → va_S A s.heap H locs → lv_has ls 6 [(3, .int 16), (0, .ref h0), (1, .long m_1)] → W p l e (rmL 1 0 0) s m [.ref h0, .long m_1].toArray below meth c H locs 0 0 (MQ below (QV g (fun (u : Nat → Int32) => True) (fun (u : Nat → Int32) => [(h0, .inr (7, [.int (nI (n0 + f8 m_1 8)), x1, .ref h1, x2, x3, x4, x5, x6, x7, x8])), (h1, .inl (aC 2, 1000, .inl u))]) A) [.ref h0, .long m_1].toArray s 0 0 A) (F0 m 3 ls []) := by
    intro n f H locs ls hn hb_ hP hD hS hl
    refine lv_iload_n hx hb dX7_feedEight_3 rfl (lv_at hl 0 rfl) ?_
    refine lv_if_lt (tgt := 88) hx hb dX7_feedEight_4 (by decide) (fun c_ => absurd c_ (by decide +kernel)) (fun _ => ?_)
    refine lv_lload_n hx hb dX7_feedEight_7 rfl (lv_at hl 2 rfl) ?_
    refine lv_iload_n hx hb dX7_feedEight_8 rfl (lv_at hl 0 rfl) ?_
    refine lv_lushr (v := ((m_1.toUInt64 >>> ((16 : Int32).toInt64.toUInt64 &&& Int64.toUInt64 63)).toInt64)) hx hb dX7_feedEight_9 rfl ?_
    refine lv_ldc2 (v := 255) hx hb hown (hts _ tb457) dX7_feedEight_10 ?_
    refine lv_land hx hb dX7_feedEight_13 ?_
    refine lv_l2i (v := ((((m_1.toUInt64 >>> ((16 : Int32).toInt64.toUInt64 &&& Int64.toUInt64 63)).toInt64) &&& 255).toInt32)) hx hb dX7_feedEight_14 rfl ?_
    obtain ⟨Sv, eSv⟩ : ∃ z : Int32, z = ((((m_1.toUInt64 >>> ((16 : Int32).toInt64.toUInt64 &&& Int64.toUInt64 63)).toInt64) &&& 255).toInt32) := ⟨_, rfl⟩
    refine relit (v := Sv) eSv.symm ?_
    refine lv_istore (lv' := [(4, .int Sv), (3, .int 16), (0, .ref h0), (1, .long m_1)]) hx hb dX7_feedEight_15 hl (by decide) rfl (fun ls hl => ?_)
    refine lv_iload hx hb dX7_feedEight_17 (lv_at hl 0 rfl) ?_
    refine lv_bipush (v := 10) hx hb dX7_feedEight_19 (by decide) ?_
    refine lv_icmp_eq (tgt := 38) hx hb dX7_feedEight_21 (by decide) (fun c23 => ?_) (fun c23 => ?_)
    · refine lv_iconst (v := 1) hx hb dX7_feedEight_38 (by decide) ?_
      refine lv_goto (tgt := 43) hx hb dX7_feedEight_39 (by decide) ?_
      refine lv_istore (lv' := [(5, .int 1), (4, .int Sv), (3, .int 16), (0, .ref h0), (1, .long m_1)]) hx hb dX7_feedEight_43 hl (by decide) rfl (fun ls hl => ?_)
      refine lv_iload hx hb dX7_feedEight_45 (lv_at hl 0 rfl) ?_
      refine lv_if_eq (tgt := 82) hx hb dX7_feedEight_47 (by decide) (fun c_ => absurd c_ (by decide +kernel)) (fun _ => ?_)
      refine lv_aload_n hx hb dX7_feedEight_50 rfl (lv_at hl 3 rfl) ?_
      refine xget F hP 0 rfl rfl inX7 0 (by decide) tb102 rfl dX7_feedEight_51 ?_
      refine lv_sipush (v := 1000) hx hb dX7_feedEight_54 (by decide) ?_
      refine lv_icmp_ge (tgt := 82) hx hb dX7_feedEight_57 (by decide) (fun c_ => absurd c_ (show ¬ (nI 1000 ≤ nI n) by rw [nI_leI (by omega) (by omega)]; omega)) (fun _ => ?_)
      refine lv_aload_n hx hb dX7_feedEight_60 rfl (lv_at hl 3 rfl) ?_
      refine xget F hP 0 rfl rfl inX7 2 (by decide) tb106 rfl dX7_feedEight_61 ?_
      refine lv_aload_n hx hb dX7_feedEight_64 rfl (lv_at hl 3 rfl) ?_
      refine xget F hP 0 rfl rfl inX7 0 (by decide) tb102 rfl dX7_feedEight_65 ?_
      refine lv_iload hx hb dX7_feedEight_68 (lv_at hl 1 rfl) ?_
      refine lv_i2c (v := ((Sv.toUInt32 % 65536).toInt32)) hx hb dX7_feedEight_70 rfl ?_
      refine xcstE F hP hD hS 1 rfl n (nI_pos (by omega)) (nI_clamp (by omega)) (by omega) dX7_feedEight_71 (fun f_25 H locs hP hD hS => ?_)
      have hP : va_P g vwCl [(h0, .inr (7, [.int (nI n), x1, .ref h1, x2, x3, x4, x5, x6, x7, x8])), (h1, .inl (aC 2, 1000, .inl f_25))] H := hP
      have hD : va_D A [(h0, .inr (7, [.int (nI n), x1, .ref h1, x2, x3, x4, x5, x6, x7, x8])), (h1, .inl (aC 2, 1000, .inl f_25))] := hD
      refine lv_aload_n hx hb dX7_feedEight_72 rfl (lv_at hl 3 rfl) ?_
      refine lv_dup hx hb dX7_feedEight_73 rfl ?_
      refine xget F hP 0 rfl rfl inX7 0 (by decide) tb102 rfl dX7_feedEight_74 ?_
      refine lv_iconst (v := 1) hx hb dX7_feedEight_77 (by decide) ?_
      refine lv_iadd hx hb dX7_feedEight_78 ?_
      refine relit (v := (nI (n + 1))) (nadd (a := n) (b := 1) (by omega)) ?_
      refine xput F hP hD hS 0 rfl rfl inX7 tyX7_ok nmX7 0 (by decide) tb102 rfl rfl rfl (Nat.le_of_ble_eq_true rfl) dX7_feedEight_79 (fun H locs hP hD hS => ?_)
      have hP : va_P g vwCl [(h0, .inr (7, [.int (nI (n + 1)), x1, .ref h1, x2, x3, x4, x5, x6, x7, x8])), (h1, .inl (aC 2, 1000, .inl f_25))] H := hP
      have hD : va_D A [(h0, .inr (7, [.int (nI (n + 1)), x1, .ref h1, x2, x3, x4, x5, x6, x7, x8])), (h1, .inl (aC 2, 1000, .inl f_25))] := hD
      refine lv_iinc (v := 8) (lv' := [(3, .int 8), (5, .int 1), (4, .int Sv), (0, .ref h0), (1, .long m_1)]) hx hb dX7_feedEight_82 hl (k := 2) rfl (by decide +kernel) (by decide) rfl (fun ls hl => ?_)
      refine lv_goto (tgt := 3) hx hb dX7_feedEight_85 (by decide) ?_
      exact hc6 (n + 1) f_25 _ _ _ (f8_up 5 hn eSv (okb_eq c23)) (by omega) (hP.sub [0, 1] rfl) (hD.sub [0, 1] (by decide) rfl) hS (lv_sub hl [0, 3, 4] rfl)
    · refine lv_iload hx hb dX7_feedEight_24 (lv_at hl 0 rfl) ?_
      refine lv_bipush (v := 32) hx hb dX7_feedEight_26 (by decide) ?_
      refine lv_icmp_lt (tgt := 42) hx hb dX7_feedEight_28 (by decide) (fun c26 => ?_) (fun c26 => ?_)
      · refine lv_iconst (v := 0) hx hb dX7_feedEight_42 (by decide) ?_
        refine lv_istore (lv' := [(5, .int 0), (4, .int Sv), (3, .int 16), (0, .ref h0), (1, .long m_1)]) hx hb dX7_feedEight_43 hl (by decide) rfl (fun ls hl => ?_)
        refine lv_iload hx hb dX7_feedEight_45 (lv_at hl 0 rfl) ?_
        refine lv_if_eq (tgt := 82) hx hb dX7_feedEight_47 (by decide) (fun _ => ?_) (fun c_ => absurd (by decide +kernel) c_)
        refine lv_iinc (v := 8) (lv' := [(3, .int 8), (5, .int 0), (4, .int Sv), (0, .ref h0), (1, .long m_1)]) hx hb dX7_feedEight_82 hl (k := 2) rfl (by decide +kernel) (by decide) rfl (fun ls hl => ?_)
        refine lv_goto (tgt := 3) hx hb dX7_feedEight_85 (by decide) ?_
        exact hc6 (n) f _ _ _ (f8_st 5 hn eSv (okb_lo c23 c26)) (by omega) (hP.sub [0, 1] rfl) (hD.sub [0, 1] (by decide) rfl) hS (lv_sub hl [0, 3, 4] rfl)
      · refine lv_iload hx hb dX7_feedEight_31 (lv_at hl 0 rfl) ?_
        refine lv_bipush (v := 126) hx hb dX7_feedEight_33 (by decide) ?_
        refine lv_icmp_gt (tgt := 42) hx hb dX7_feedEight_35 (by decide) (fun c28 => ?_) (fun c28 => ?_)
        · refine lv_iconst (v := 0) hx hb dX7_feedEight_42 (by decide) ?_
          refine lv_istore (lv' := [(5, .int 0), (4, .int Sv), (3, .int 16), (0, .ref h0), (1, .long m_1)]) hx hb dX7_feedEight_43 hl (by decide) rfl (fun ls hl => ?_)
          refine lv_iload hx hb dX7_feedEight_45 (lv_at hl 0 rfl) ?_
          refine lv_if_eq (tgt := 82) hx hb dX7_feedEight_47 (by decide) (fun _ => ?_) (fun c_ => absurd (by decide +kernel) c_)
          refine lv_iinc (v := 8) (lv' := [(3, .int 8), (5, .int 0), (4, .int Sv), (0, .ref h0), (1, .long m_1)]) hx hb dX7_feedEight_82 hl (k := 2) rfl (by decide +kernel) (by decide) rfl (fun ls hl => ?_)
          refine lv_goto (tgt := 3) hx hb dX7_feedEight_85 (by decide) ?_
          exact hc6 (n) f _ _ _ (f8_st 5 hn eSv (okb_hi c23 c28)) (by omega) (hP.sub [0, 1] rfl) (hD.sub [0, 1] (by decide) rfl) hS (lv_sub hl [0, 3, 4] rfl)
        · refine lv_iconst (v := 1) hx hb dX7_feedEight_38 (by decide) ?_
          refine lv_goto (tgt := 43) hx hb dX7_feedEight_39 (by decide) ?_
          refine lv_istore (lv' := [(5, .int 1), (4, .int Sv), (3, .int 16), (0, .ref h0), (1, .long m_1)]) hx hb dX7_feedEight_43 hl (by decide) rfl (fun ls hl => ?_)
          refine lv_iload hx hb dX7_feedEight_45 (lv_at hl 0 rfl) ?_
          refine lv_if_eq (tgt := 82) hx hb dX7_feedEight_47 (by decide) (fun c_ => absurd c_ (by decide +kernel)) (fun _ => ?_)
          refine lv_aload_n hx hb dX7_feedEight_50 rfl (lv_at hl 3 rfl) ?_
          refine xget F hP 0 rfl rfl inX7 0 (by decide) tb102 rfl dX7_feedEight_51 ?_
          refine lv_sipush (v := 1000) hx hb dX7_feedEight_54 (by decide) ?_
          refine lv_icmp_ge (tgt := 82) hx hb dX7_feedEight_57 (by decide) (fun c_ => absurd c_ (show ¬ (nI 1000 ≤ nI n) by rw [nI_leI (by omega) (by omega)]; omega)) (fun _ => ?_)
          refine lv_aload_n hx hb dX7_feedEight_60 rfl (lv_at hl 3 rfl) ?_
          refine xget F hP 0 rfl rfl inX7 2 (by decide) tb106 rfl dX7_feedEight_61 ?_
          refine lv_aload_n hx hb dX7_feedEight_64 rfl (lv_at hl 3 rfl) ?_
          refine xget F hP 0 rfl rfl inX7 0 (by decide) tb102 rfl dX7_feedEight_65 ?_
          refine lv_iload hx hb dX7_feedEight_68 (lv_at hl 1 rfl) ?_
          refine lv_i2c (v := ((Sv.toUInt32 % 65536).toInt32)) hx hb dX7_feedEight_70 rfl ?_
          refine xcstE F hP hD hS 1 rfl n (nI_pos (by omega)) (nI_clamp (by omega)) (by omega) dX7_feedEight_71 (fun f_31 H locs hP hD hS => ?_)
          have hP : va_P g vwCl [(h0, .inr (7, [.int (nI n), x1, .ref h1, x2, x3, x4, x5, x6, x7, x8])), (h1, .inl (aC 2, 1000, .inl f_31))] H := hP
          have hD : va_D A [(h0, .inr (7, [.int (nI n), x1, .ref h1, x2, x3, x4, x5, x6, x7, x8])), (h1, .inl (aC 2, 1000, .inl f_31))] := hD
          refine lv_aload_n hx hb dX7_feedEight_72 rfl (lv_at hl 3 rfl) ?_
          refine lv_dup hx hb dX7_feedEight_73 rfl ?_
          refine xget F hP 0 rfl rfl inX7 0 (by decide) tb102 rfl dX7_feedEight_74 ?_
          refine lv_iconst (v := 1) hx hb dX7_feedEight_77 (by decide) ?_
          refine lv_iadd hx hb dX7_feedEight_78 ?_
          refine relit (v := (nI (n + 1))) (nadd (a := n) (b := 1) (by omega)) ?_
          refine xput F hP hD hS 0 rfl rfl inX7 tyX7_ok nmX7 0 (by decide) tb102 rfl rfl rfl (Nat.le_of_ble_eq_true rfl) dX7_feedEight_79 (fun H locs hP hD hS => ?_)
          have hP : va_P g vwCl [(h0, .inr (7, [.int (nI (n + 1)), x1, .ref h1, x2, x3, x4, x5, x6, x7, x8])), (h1, .inl (aC 2, 1000, .inl f_31))] H := hP
          have hD : va_D A [(h0, .inr (7, [.int (nI (n + 1)), x1, .ref h1, x2, x3, x4, x5, x6, x7, x8])), (h1, .inl (aC 2, 1000, .inl f_31))] := hD
          refine lv_iinc (v := 8) (lv' := [(3, .int 8), (5, .int 1), (4, .int Sv), (0, .ref h0), (1, .long m_1)]) hx hb dX7_feedEight_82 hl (k := 2) rfl (by decide +kernel) (by decide) rfl (fun ls hl => ?_)
          refine lv_goto (tgt := 3) hx hb dX7_feedEight_85 (by decide) ?_
          exact hc6 (n + 1) f_31 _ _ _ (f8_up 5 hn eSv (okb_in c26 c28)) (by omega) (hP.sub [0, 1] rfl) (hD.sub [0, 1] (by decide) rfl) hS (lv_sub hl [0, 3, 4] rfl)
  have hc4 : ∀ (n : Nat) (f : Nat → Int32) (H : Heap) (locs : List Loc) (ls : Array Slot), n = n0 + f8 m_1 4 → n ≤ 20 → va_P g vwCl [(h0, .inr (7, [.int (nI n), x1, .ref h1, x2, x3, x4, x5, x6, x7, x8])), (h1, .inl (aC 2, 1000, .inl f))] H → va_D A [(h0, .inr (7, [.int (nI n), x1, .ref h1, x2, x3, x4, x5, x6, x7, x8])), (h1, .inl (aC 2, 1000, .inl f))] → va_S A s.heap H locs → lv_has ls 6 [(3, .int 24), (0, .ref h0), (1, .long m_1)] → W p l e (rmL 1 0 0) s m [.ref h0, .long m_1].toArray below meth c H locs 0 0 (MQ below (QV g (fun (u : Nat → Int32) => True) (fun (u : Nat → Int32) => [(h0, .inr (7, [.int (nI (n0 + f8 m_1 8)), x1, .ref h1, x2, x3, x4, x5, x6, x7, x8])), (h1, .inl (aC 2, 1000, .inl u))]) A) [.ref h0, .long m_1].toArray s 0 0 A) (F0 m 3 ls []) := by
    intro n f H locs ls hn hb_ hP hD hS hl
    refine lv_iload_n hx hb dX7_feedEight_3 rfl (lv_at hl 0 rfl) ?_
    refine lv_if_lt (tgt := 88) hx hb dX7_feedEight_4 (by decide) (fun c_ => absurd c_ (by decide +kernel)) (fun _ => ?_)
    refine lv_lload_n hx hb dX7_feedEight_7 rfl (lv_at hl 2 rfl) ?_
    refine lv_iload_n hx hb dX7_feedEight_8 rfl (lv_at hl 0 rfl) ?_
    refine lv_lushr (v := ((m_1.toUInt64 >>> ((24 : Int32).toInt64.toUInt64 &&& Int64.toUInt64 63)).toInt64)) hx hb dX7_feedEight_9 rfl ?_
    refine lv_ldc2 (v := 255) hx hb hown (hts _ tb457) dX7_feedEight_10 ?_
    refine lv_land hx hb dX7_feedEight_13 ?_
    refine lv_l2i (v := ((((m_1.toUInt64 >>> ((24 : Int32).toInt64.toUInt64 &&& Int64.toUInt64 63)).toInt64) &&& 255).toInt32)) hx hb dX7_feedEight_14 rfl ?_
    obtain ⟨Sv, eSv⟩ : ∃ z : Int32, z = ((((m_1.toUInt64 >>> ((24 : Int32).toInt64.toUInt64 &&& Int64.toUInt64 63)).toInt64) &&& 255).toInt32) := ⟨_, rfl⟩
    refine relit (v := Sv) eSv.symm ?_
    refine lv_istore (lv' := [(4, .int Sv), (3, .int 24), (0, .ref h0), (1, .long m_1)]) hx hb dX7_feedEight_15 hl (by decide) rfl (fun ls hl => ?_)
    refine lv_iload hx hb dX7_feedEight_17 (lv_at hl 0 rfl) ?_
    refine lv_bipush (v := 10) hx hb dX7_feedEight_19 (by decide) ?_
    refine lv_icmp_eq (tgt := 38) hx hb dX7_feedEight_21 (by decide) (fun c33 => ?_) (fun c33 => ?_)
    · refine lv_iconst (v := 1) hx hb dX7_feedEight_38 (by decide) ?_
      refine lv_goto (tgt := 43) hx hb dX7_feedEight_39 (by decide) ?_
      refine lv_istore (lv' := [(5, .int 1), (4, .int Sv), (3, .int 24), (0, .ref h0), (1, .long m_1)]) hx hb dX7_feedEight_43 hl (by decide) rfl (fun ls hl => ?_)
      refine lv_iload hx hb dX7_feedEight_45 (lv_at hl 0 rfl) ?_
      refine lv_if_eq (tgt := 82) hx hb dX7_feedEight_47 (by decide) (fun c_ => absurd c_ (by decide +kernel)) (fun _ => ?_)
      refine lv_aload_n hx hb dX7_feedEight_50 rfl (lv_at hl 3 rfl) ?_
      refine xget F hP 0 rfl rfl inX7 0 (by decide) tb102 rfl dX7_feedEight_51 ?_
      refine lv_sipush (v := 1000) hx hb dX7_feedEight_54 (by decide) ?_
      refine lv_icmp_ge (tgt := 82) hx hb dX7_feedEight_57 (by decide) (fun c_ => absurd c_ (show ¬ (nI 1000 ≤ nI n) by rw [nI_leI (by omega) (by omega)]; omega)) (fun _ => ?_)
      refine lv_aload_n hx hb dX7_feedEight_60 rfl (lv_at hl 3 rfl) ?_
      refine xget F hP 0 rfl rfl inX7 2 (by decide) tb106 rfl dX7_feedEight_61 ?_
      refine lv_aload_n hx hb dX7_feedEight_64 rfl (lv_at hl 3 rfl) ?_
      refine xget F hP 0 rfl rfl inX7 0 (by decide) tb102 rfl dX7_feedEight_65 ?_
      refine lv_iload hx hb dX7_feedEight_68 (lv_at hl 1 rfl) ?_
      refine lv_i2c (v := ((Sv.toUInt32 % 65536).toInt32)) hx hb dX7_feedEight_70 rfl ?_
      refine xcstE F hP hD hS 1 rfl n (nI_pos (by omega)) (nI_clamp (by omega)) (by omega) dX7_feedEight_71 (fun f_35 H locs hP hD hS => ?_)
      have hP : va_P g vwCl [(h0, .inr (7, [.int (nI n), x1, .ref h1, x2, x3, x4, x5, x6, x7, x8])), (h1, .inl (aC 2, 1000, .inl f_35))] H := hP
      have hD : va_D A [(h0, .inr (7, [.int (nI n), x1, .ref h1, x2, x3, x4, x5, x6, x7, x8])), (h1, .inl (aC 2, 1000, .inl f_35))] := hD
      refine lv_aload_n hx hb dX7_feedEight_72 rfl (lv_at hl 3 rfl) ?_
      refine lv_dup hx hb dX7_feedEight_73 rfl ?_
      refine xget F hP 0 rfl rfl inX7 0 (by decide) tb102 rfl dX7_feedEight_74 ?_
      refine lv_iconst (v := 1) hx hb dX7_feedEight_77 (by decide) ?_
      refine lv_iadd hx hb dX7_feedEight_78 ?_
      refine relit (v := (nI (n + 1))) (nadd (a := n) (b := 1) (by omega)) ?_
      refine xput F hP hD hS 0 rfl rfl inX7 tyX7_ok nmX7 0 (by decide) tb102 rfl rfl rfl (Nat.le_of_ble_eq_true rfl) dX7_feedEight_79 (fun H locs hP hD hS => ?_)
      have hP : va_P g vwCl [(h0, .inr (7, [.int (nI (n + 1)), x1, .ref h1, x2, x3, x4, x5, x6, x7, x8])), (h1, .inl (aC 2, 1000, .inl f_35))] H := hP
      have hD : va_D A [(h0, .inr (7, [.int (nI (n + 1)), x1, .ref h1, x2, x3, x4, x5, x6, x7, x8])), (h1, .inl (aC 2, 1000, .inl f_35))] := hD
      refine lv_iinc (v := 16) (lv' := [(3, .int 16), (5, .int 1), (4, .int Sv), (0, .ref h0), (1, .long m_1)]) hx hb dX7_feedEight_82 hl (k := 2) rfl (by decide +kernel) (by decide) rfl (fun ls hl => ?_)
      refine lv_goto (tgt := 3) hx hb dX7_feedEight_85 (by decide) ?_
      exact hc5 (n + 1) f_35 _ _ _ (f8_up 4 hn eSv (okb_eq c33)) (by omega) (hP.sub [0, 1] rfl) (hD.sub [0, 1] (by decide) rfl) hS (lv_sub hl [0, 3, 4] rfl)
    · refine lv_iload hx hb dX7_feedEight_24 (lv_at hl 0 rfl) ?_
      refine lv_bipush (v := 32) hx hb dX7_feedEight_26 (by decide) ?_
      refine lv_icmp_lt (tgt := 42) hx hb dX7_feedEight_28 (by decide) (fun c36 => ?_) (fun c36 => ?_)
      · refine lv_iconst (v := 0) hx hb dX7_feedEight_42 (by decide) ?_
        refine lv_istore (lv' := [(5, .int 0), (4, .int Sv), (3, .int 24), (0, .ref h0), (1, .long m_1)]) hx hb dX7_feedEight_43 hl (by decide) rfl (fun ls hl => ?_)
        refine lv_iload hx hb dX7_feedEight_45 (lv_at hl 0 rfl) ?_
        refine lv_if_eq (tgt := 82) hx hb dX7_feedEight_47 (by decide) (fun _ => ?_) (fun c_ => absurd (by decide +kernel) c_)
        refine lv_iinc (v := 16) (lv' := [(3, .int 16), (5, .int 0), (4, .int Sv), (0, .ref h0), (1, .long m_1)]) hx hb dX7_feedEight_82 hl (k := 2) rfl (by decide +kernel) (by decide) rfl (fun ls hl => ?_)
        refine lv_goto (tgt := 3) hx hb dX7_feedEight_85 (by decide) ?_
        exact hc5 (n) f _ _ _ (f8_st 4 hn eSv (okb_lo c33 c36)) (by omega) (hP.sub [0, 1] rfl) (hD.sub [0, 1] (by decide) rfl) hS (lv_sub hl [0, 3, 4] rfl)
      · refine lv_iload hx hb dX7_feedEight_31 (lv_at hl 0 rfl) ?_
        refine lv_bipush (v := 126) hx hb dX7_feedEight_33 (by decide) ?_
        refine lv_icmp_gt (tgt := 42) hx hb dX7_feedEight_35 (by decide) (fun c38 => ?_) (fun c38 => ?_)
        · refine lv_iconst (v := 0) hx hb dX7_feedEight_42 (by decide) ?_
          refine lv_istore (lv' := [(5, .int 0), (4, .int Sv), (3, .int 24), (0, .ref h0), (1, .long m_1)]) hx hb dX7_feedEight_43 hl (by decide) rfl (fun ls hl => ?_)
          refine lv_iload hx hb dX7_feedEight_45 (lv_at hl 0 rfl) ?_
          refine lv_if_eq (tgt := 82) hx hb dX7_feedEight_47 (by decide) (fun _ => ?_) (fun c_ => absurd (by decide +kernel) c_)
          refine lv_iinc (v := 16) (lv' := [(3, .int 16), (5, .int 0), (4, .int Sv), (0, .ref h0), (1, .long m_1)]) hx hb dX7_feedEight_82 hl (k := 2) rfl (by decide +kernel) (by decide) rfl (fun ls hl => ?_)
          refine lv_goto (tgt := 3) hx hb dX7_feedEight_85 (by decide) ?_
          exact hc5 (n) f _ _ _ (f8_st 4 hn eSv (okb_hi c33 c38)) (by omega) (hP.sub [0, 1] rfl) (hD.sub [0, 1] (by decide) rfl) hS (lv_sub hl [0, 3, 4] rfl)
        · refine lv_iconst (v := 1) hx hb dX7_feedEight_38 (by decide) ?_
          refine lv_goto (tgt := 43) hx hb dX7_feedEight_39 (by decide) ?_
          refine lv_istore (lv' := [(5, .int 1), (4, .int Sv), (3, .int 24), (0, .ref h0), (1, .long m_1)]) hx hb dX7_feedEight_43 hl (by decide) rfl (fun ls hl => ?_)
          refine lv_iload hx hb dX7_feedEight_45 (lv_at hl 0 rfl) ?_
          refine lv_if_eq (tgt := 82) hx hb dX7_feedEight_47 (by decide) (fun c_ => absurd c_ (by decide +kernel)) (fun _ => ?_)
          refine lv_aload_n hx hb dX7_feedEight_50 rfl (lv_at hl 3 rfl) ?_
          refine xget F hP 0 rfl rfl inX7 0 (by decide) tb102 rfl dX7_feedEight_51 ?_
          refine lv_sipush (v := 1000) hx hb dX7_feedEight_54 (by decide) ?_
          refine lv_icmp_ge (tgt := 82) hx hb dX7_feedEight_57 (by decide) (fun c_ => absurd c_ (show ¬ (nI 1000 ≤ nI n) by rw [nI_leI (by omega) (by omega)]; omega)) (fun _ => ?_)
          refine lv_aload_n hx hb dX7_feedEight_60 rfl (lv_at hl 3 rfl) ?_
          refine xget F hP 0 rfl rfl inX7 2 (by decide) tb106 rfl dX7_feedEight_61 ?_
          refine lv_aload_n hx hb dX7_feedEight_64 rfl (lv_at hl 3 rfl) ?_
          refine xget F hP 0 rfl rfl inX7 0 (by decide) tb102 rfl dX7_feedEight_65 ?_
          refine lv_iload hx hb dX7_feedEight_68 (lv_at hl 1 rfl) ?_
          refine lv_i2c (v := ((Sv.toUInt32 % 65536).toInt32)) hx hb dX7_feedEight_70 rfl ?_
          refine xcstE F hP hD hS 1 rfl n (nI_pos (by omega)) (nI_clamp (by omega)) (by omega) dX7_feedEight_71 (fun f_41 H locs hP hD hS => ?_)
          have hP : va_P g vwCl [(h0, .inr (7, [.int (nI n), x1, .ref h1, x2, x3, x4, x5, x6, x7, x8])), (h1, .inl (aC 2, 1000, .inl f_41))] H := hP
          have hD : va_D A [(h0, .inr (7, [.int (nI n), x1, .ref h1, x2, x3, x4, x5, x6, x7, x8])), (h1, .inl (aC 2, 1000, .inl f_41))] := hD
          refine lv_aload_n hx hb dX7_feedEight_72 rfl (lv_at hl 3 rfl) ?_
          refine lv_dup hx hb dX7_feedEight_73 rfl ?_
          refine xget F hP 0 rfl rfl inX7 0 (by decide) tb102 rfl dX7_feedEight_74 ?_
          refine lv_iconst (v := 1) hx hb dX7_feedEight_77 (by decide) ?_
          refine lv_iadd hx hb dX7_feedEight_78 ?_
          refine relit (v := (nI (n + 1))) (nadd (a := n) (b := 1) (by omega)) ?_
          refine xput F hP hD hS 0 rfl rfl inX7 tyX7_ok nmX7 0 (by decide) tb102 rfl rfl rfl (Nat.le_of_ble_eq_true rfl) dX7_feedEight_79 (fun H locs hP hD hS => ?_)
          have hP : va_P g vwCl [(h0, .inr (7, [.int (nI (n + 1)), x1, .ref h1, x2, x3, x4, x5, x6, x7, x8])), (h1, .inl (aC 2, 1000, .inl f_41))] H := hP
          have hD : va_D A [(h0, .inr (7, [.int (nI (n + 1)), x1, .ref h1, x2, x3, x4, x5, x6, x7, x8])), (h1, .inl (aC 2, 1000, .inl f_41))] := hD
          refine lv_iinc (v := 16) (lv' := [(3, .int 16), (5, .int 1), (4, .int Sv), (0, .ref h0), (1, .long m_1)]) hx hb dX7_feedEight_82 hl (k := 2) rfl (by decide +kernel) (by decide) rfl (fun ls hl => ?_)
          refine lv_goto (tgt := 3) hx hb dX7_feedEight_85 (by decide) ?_
          exact hc5 (n + 1) f_41 _ _ _ (f8_up 4 hn eSv (okb_in c36 c38)) (by omega) (hP.sub [0, 1] rfl) (hD.sub [0, 1] (by decide) rfl) hS (lv_sub hl [0, 3, 4] rfl)
  have hc3 : ∀ (n : Nat) (f : Nat → Int32) (H : Heap) (locs : List Loc) (ls : Array Slot), n = n0 + f8 m_1 3 → n ≤ 19 → va_P g vwCl [(h0, .inr (7, [.int (nI n), x1, .ref h1, x2, x3, x4, x5, x6, x7, x8])), (h1, .inl (aC 2, 1000, .inl f))] H → va_D A [(h0, .inr (7, [.int (nI n), x1, .ref h1, x2, x3, x4, x5, x6, x7, x8])), (h1, .inl (aC 2, 1000, .inl f))] → va_S A s.heap H locs → lv_has ls 6 [(3, .int 32), (0, .ref h0), (1, .long m_1)] → W p l e (rmL 1 0 0) s m [.ref h0, .long m_1].toArray below meth c H locs 0 0 (MQ below (QV g (fun (u : Nat → Int32) => True) (fun (u : Nat → Int32) => [(h0, .inr (7, [.int (nI (n0 + f8 m_1 8)), x1, .ref h1, x2, x3, x4, x5, x6, x7, x8])), (h1, .inl (aC 2, 1000, .inl u))]) A) [.ref h0, .long m_1].toArray s 0 0 A) (F0 m 3 ls []) := by
    intro n f H locs ls hn hb_ hP hD hS hl
    refine lv_iload_n hx hb dX7_feedEight_3 rfl (lv_at hl 0 rfl) ?_
    refine lv_if_lt (tgt := 88) hx hb dX7_feedEight_4 (by decide) (fun c_ => absurd c_ (by decide +kernel)) (fun _ => ?_)
    refine lv_lload_n hx hb dX7_feedEight_7 rfl (lv_at hl 2 rfl) ?_
    refine lv_iload_n hx hb dX7_feedEight_8 rfl (lv_at hl 0 rfl) ?_
    refine lv_lushr (v := ((m_1.toUInt64 >>> ((32 : Int32).toInt64.toUInt64 &&& Int64.toUInt64 63)).toInt64)) hx hb dX7_feedEight_9 rfl ?_
    refine lv_ldc2 (v := 255) hx hb hown (hts _ tb457) dX7_feedEight_10 ?_
    refine lv_land hx hb dX7_feedEight_13 ?_
    refine lv_l2i (v := ((((m_1.toUInt64 >>> ((32 : Int32).toInt64.toUInt64 &&& Int64.toUInt64 63)).toInt64) &&& 255).toInt32)) hx hb dX7_feedEight_14 rfl ?_
    obtain ⟨Sv, eSv⟩ : ∃ z : Int32, z = ((((m_1.toUInt64 >>> ((32 : Int32).toInt64.toUInt64 &&& Int64.toUInt64 63)).toInt64) &&& 255).toInt32) := ⟨_, rfl⟩
    refine relit (v := Sv) eSv.symm ?_
    refine lv_istore (lv' := [(4, .int Sv), (3, .int 32), (0, .ref h0), (1, .long m_1)]) hx hb dX7_feedEight_15 hl (by decide) rfl (fun ls hl => ?_)
    refine lv_iload hx hb dX7_feedEight_17 (lv_at hl 0 rfl) ?_
    refine lv_bipush (v := 10) hx hb dX7_feedEight_19 (by decide) ?_
    refine lv_icmp_eq (tgt := 38) hx hb dX7_feedEight_21 (by decide) (fun c43 => ?_) (fun c43 => ?_)
    · refine lv_iconst (v := 1) hx hb dX7_feedEight_38 (by decide) ?_
      refine lv_goto (tgt := 43) hx hb dX7_feedEight_39 (by decide) ?_
      refine lv_istore (lv' := [(5, .int 1), (4, .int Sv), (3, .int 32), (0, .ref h0), (1, .long m_1)]) hx hb dX7_feedEight_43 hl (by decide) rfl (fun ls hl => ?_)
      refine lv_iload hx hb dX7_feedEight_45 (lv_at hl 0 rfl) ?_
      refine lv_if_eq (tgt := 82) hx hb dX7_feedEight_47 (by decide) (fun c_ => absurd c_ (by decide +kernel)) (fun _ => ?_)
      refine lv_aload_n hx hb dX7_feedEight_50 rfl (lv_at hl 3 rfl) ?_
      refine xget F hP 0 rfl rfl inX7 0 (by decide) tb102 rfl dX7_feedEight_51 ?_
      refine lv_sipush (v := 1000) hx hb dX7_feedEight_54 (by decide) ?_
      refine lv_icmp_ge (tgt := 82) hx hb dX7_feedEight_57 (by decide) (fun c_ => absurd c_ (show ¬ (nI 1000 ≤ nI n) by rw [nI_leI (by omega) (by omega)]; omega)) (fun _ => ?_)
      refine lv_aload_n hx hb dX7_feedEight_60 rfl (lv_at hl 3 rfl) ?_
      refine xget F hP 0 rfl rfl inX7 2 (by decide) tb106 rfl dX7_feedEight_61 ?_
      refine lv_aload_n hx hb dX7_feedEight_64 rfl (lv_at hl 3 rfl) ?_
      refine xget F hP 0 rfl rfl inX7 0 (by decide) tb102 rfl dX7_feedEight_65 ?_
      refine lv_iload hx hb dX7_feedEight_68 (lv_at hl 1 rfl) ?_
      refine lv_i2c (v := ((Sv.toUInt32 % 65536).toInt32)) hx hb dX7_feedEight_70 rfl ?_
      refine xcstE F hP hD hS 1 rfl n (nI_pos (by omega)) (nI_clamp (by omega)) (by omega) dX7_feedEight_71 (fun f_45 H locs hP hD hS => ?_)
      have hP : va_P g vwCl [(h0, .inr (7, [.int (nI n), x1, .ref h1, x2, x3, x4, x5, x6, x7, x8])), (h1, .inl (aC 2, 1000, .inl f_45))] H := hP
      have hD : va_D A [(h0, .inr (7, [.int (nI n), x1, .ref h1, x2, x3, x4, x5, x6, x7, x8])), (h1, .inl (aC 2, 1000, .inl f_45))] := hD
      refine lv_aload_n hx hb dX7_feedEight_72 rfl (lv_at hl 3 rfl) ?_
      refine lv_dup hx hb dX7_feedEight_73 rfl ?_
      refine xget F hP 0 rfl rfl inX7 0 (by decide) tb102 rfl dX7_feedEight_74 ?_
      refine lv_iconst (v := 1) hx hb dX7_feedEight_77 (by decide) ?_
      refine lv_iadd hx hb dX7_feedEight_78 ?_
      refine relit (v := (nI (n + 1))) (nadd (a := n) (b := 1) (by omega)) ?_
      refine xput F hP hD hS 0 rfl rfl inX7 tyX7_ok nmX7 0 (by decide) tb102 rfl rfl rfl (Nat.le_of_ble_eq_true rfl) dX7_feedEight_79 (fun H locs hP hD hS => ?_)
      have hP : va_P g vwCl [(h0, .inr (7, [.int (nI (n + 1)), x1, .ref h1, x2, x3, x4, x5, x6, x7, x8])), (h1, .inl (aC 2, 1000, .inl f_45))] H := hP
      have hD : va_D A [(h0, .inr (7, [.int (nI (n + 1)), x1, .ref h1, x2, x3, x4, x5, x6, x7, x8])), (h1, .inl (aC 2, 1000, .inl f_45))] := hD
      refine lv_iinc (v := 24) (lv' := [(3, .int 24), (5, .int 1), (4, .int Sv), (0, .ref h0), (1, .long m_1)]) hx hb dX7_feedEight_82 hl (k := 2) rfl (by decide +kernel) (by decide) rfl (fun ls hl => ?_)
      refine lv_goto (tgt := 3) hx hb dX7_feedEight_85 (by decide) ?_
      exact hc4 (n + 1) f_45 _ _ _ (f8_up 3 hn eSv (okb_eq c43)) (by omega) (hP.sub [0, 1] rfl) (hD.sub [0, 1] (by decide) rfl) hS (lv_sub hl [0, 3, 4] rfl)
    · refine lv_iload hx hb dX7_feedEight_24 (lv_at hl 0 rfl) ?_
      refine lv_bipush (v := 32) hx hb dX7_feedEight_26 (by decide) ?_
      refine lv_icmp_lt (tgt := 42) hx hb dX7_feedEight_28 (by decide) (fun c46 => ?_) (fun c46 => ?_)
      · refine lv_iconst (v := 0) hx hb dX7_feedEight_42 (by decide) ?_
        refine lv_istore (lv' := [(5, .int 0), (4, .int Sv), (3, .int 32), (0, .ref h0), (1, .long m_1)]) hx hb dX7_feedEight_43 hl (by decide) rfl (fun ls hl => ?_)
        refine lv_iload hx hb dX7_feedEight_45 (lv_at hl 0 rfl) ?_
        refine lv_if_eq (tgt := 82) hx hb dX7_feedEight_47 (by decide) (fun _ => ?_) (fun c_ => absurd (by decide +kernel) c_)
        refine lv_iinc (v := 24) (lv' := [(3, .int 24), (5, .int 0), (4, .int Sv), (0, .ref h0), (1, .long m_1)]) hx hb dX7_feedEight_82 hl (k := 2) rfl (by decide +kernel) (by decide) rfl (fun ls hl => ?_)
        refine lv_goto (tgt := 3) hx hb dX7_feedEight_85 (by decide) ?_
        exact hc4 (n) f _ _ _ (f8_st 3 hn eSv (okb_lo c43 c46)) (by omega) (hP.sub [0, 1] rfl) (hD.sub [0, 1] (by decide) rfl) hS (lv_sub hl [0, 3, 4] rfl)
      · refine lv_iload hx hb dX7_feedEight_31 (lv_at hl 0 rfl) ?_
        refine lv_bipush (v := 126) hx hb dX7_feedEight_33 (by decide) ?_
        refine lv_icmp_gt (tgt := 42) hx hb dX7_feedEight_35 (by decide) (fun c48 => ?_) (fun c48 => ?_)
        · refine lv_iconst (v := 0) hx hb dX7_feedEight_42 (by decide) ?_
          refine lv_istore (lv' := [(5, .int 0), (4, .int Sv), (3, .int 32), (0, .ref h0), (1, .long m_1)]) hx hb dX7_feedEight_43 hl (by decide) rfl (fun ls hl => ?_)
          refine lv_iload hx hb dX7_feedEight_45 (lv_at hl 0 rfl) ?_
          refine lv_if_eq (tgt := 82) hx hb dX7_feedEight_47 (by decide) (fun _ => ?_) (fun c_ => absurd (by decide +kernel) c_)
          refine lv_iinc (v := 24) (lv' := [(3, .int 24), (5, .int 0), (4, .int Sv), (0, .ref h0), (1, .long m_1)]) hx hb dX7_feedEight_82 hl (k := 2) rfl (by decide +kernel) (by decide) rfl (fun ls hl => ?_)
          refine lv_goto (tgt := 3) hx hb dX7_feedEight_85 (by decide) ?_
          exact hc4 (n) f _ _ _ (f8_st 3 hn eSv (okb_hi c43 c48)) (by omega) (hP.sub [0, 1] rfl) (hD.sub [0, 1] (by decide) rfl) hS (lv_sub hl [0, 3, 4] rfl)
        · refine lv_iconst (v := 1) hx hb dX7_feedEight_38 (by decide) ?_
          refine lv_goto (tgt := 43) hx hb dX7_feedEight_39 (by decide) ?_
          refine lv_istore (lv' := [(5, .int 1), (4, .int Sv), (3, .int 32), (0, .ref h0), (1, .long m_1)]) hx hb dX7_feedEight_43 hl (by decide) rfl (fun ls hl => ?_)
          refine lv_iload hx hb dX7_feedEight_45 (lv_at hl 0 rfl) ?_
          refine lv_if_eq (tgt := 82) hx hb dX7_feedEight_47 (by decide) (fun c_ => absurd c_ (by decide +kernel)) (fun _ => ?_)
          refine lv_aload_n hx hb dX7_feedEight_50 rfl (lv_at hl 3 rfl) ?_
          refine xget F hP 0 rfl rfl inX7 0 (by decide) tb102 rfl dX7_feedEight_51 ?_
          refine lv_sipush (v := 1000) hx hb dX7_feedEight_54 (by decide) ?_
          refine lv_icmp_ge (tgt := 82) hx hb dX7_feedEight_57 (by decide) (fun c_ => absurd c_ (show ¬ (nI 1000 ≤ nI n) by rw [nI_leI (by omega) (by omega)]; omega)) (fun _ => ?_)
          refine lv_aload_n hx hb dX7_feedEight_60 rfl (lv_at hl 3 rfl) ?_
          refine xget F hP 0 rfl rfl inX7 2 (by decide) tb106 rfl dX7_feedEight_61 ?_
          refine lv_aload_n hx hb dX7_feedEight_64 rfl (lv_at hl 3 rfl) ?_
          refine xget F hP 0 rfl rfl inX7 0 (by decide) tb102 rfl dX7_feedEight_65 ?_
          refine lv_iload hx hb dX7_feedEight_68 (lv_at hl 1 rfl) ?_
          refine lv_i2c (v := ((Sv.toUInt32 % 65536).toInt32)) hx hb dX7_feedEight_70 rfl ?_
          refine xcstE F hP hD hS 1 rfl n (nI_pos (by omega)) (nI_clamp (by omega)) (by omega) dX7_feedEight_71 (fun f_51 H locs hP hD hS => ?_)
          have hP : va_P g vwCl [(h0, .inr (7, [.int (nI n), x1, .ref h1, x2, x3, x4, x5, x6, x7, x8])), (h1, .inl (aC 2, 1000, .inl f_51))] H := hP
          have hD : va_D A [(h0, .inr (7, [.int (nI n), x1, .ref h1, x2, x3, x4, x5, x6, x7, x8])), (h1, .inl (aC 2, 1000, .inl f_51))] := hD
          refine lv_aload_n hx hb dX7_feedEight_72 rfl (lv_at hl 3 rfl) ?_
          refine lv_dup hx hb dX7_feedEight_73 rfl ?_
          refine xget F hP 0 rfl rfl inX7 0 (by decide) tb102 rfl dX7_feedEight_74 ?_
          refine lv_iconst (v := 1) hx hb dX7_feedEight_77 (by decide) ?_
          refine lv_iadd hx hb dX7_feedEight_78 ?_
          refine relit (v := (nI (n + 1))) (nadd (a := n) (b := 1) (by omega)) ?_
          refine xput F hP hD hS 0 rfl rfl inX7 tyX7_ok nmX7 0 (by decide) tb102 rfl rfl rfl (Nat.le_of_ble_eq_true rfl) dX7_feedEight_79 (fun H locs hP hD hS => ?_)
          have hP : va_P g vwCl [(h0, .inr (7, [.int (nI (n + 1)), x1, .ref h1, x2, x3, x4, x5, x6, x7, x8])), (h1, .inl (aC 2, 1000, .inl f_51))] H := hP
          have hD : va_D A [(h0, .inr (7, [.int (nI (n + 1)), x1, .ref h1, x2, x3, x4, x5, x6, x7, x8])), (h1, .inl (aC 2, 1000, .inl f_51))] := hD
          refine lv_iinc (v := 24) (lv' := [(3, .int 24), (5, .int 1), (4, .int Sv), (0, .ref h0), (1, .long m_1)]) hx hb dX7_feedEight_82 hl (k := 2) rfl (by decide +kernel) (by decide) rfl (fun ls hl => ?_)
          refine lv_goto (tgt := 3) hx hb dX7_feedEight_85 (by decide) ?_
          exact hc4 (n + 1) f_51 _ _ _ (f8_up 3 hn eSv (okb_in c46 c48)) (by omega) (hP.sub [0, 1] rfl) (hD.sub [0, 1] (by decide) rfl) hS (lv_sub hl [0, 3, 4] rfl)
  have hc2 : ∀ (n : Nat) (f : Nat → Int32) (H : Heap) (locs : List Loc) (ls : Array Slot), n = n0 + f8 m_1 2 → n ≤ 18 → va_P g vwCl [(h0, .inr (7, [.int (nI n), x1, .ref h1, x2, x3, x4, x5, x6, x7, x8])), (h1, .inl (aC 2, 1000, .inl f))] H → va_D A [(h0, .inr (7, [.int (nI n), x1, .ref h1, x2, x3, x4, x5, x6, x7, x8])), (h1, .inl (aC 2, 1000, .inl f))] → va_S A s.heap H locs → lv_has ls 6 [(3, .int 40), (0, .ref h0), (1, .long m_1)] → W p l e (rmL 1 0 0) s m [.ref h0, .long m_1].toArray below meth c H locs 0 0 (MQ below (QV g (fun (u : Nat → Int32) => True) (fun (u : Nat → Int32) => [(h0, .inr (7, [.int (nI (n0 + f8 m_1 8)), x1, .ref h1, x2, x3, x4, x5, x6, x7, x8])), (h1, .inl (aC 2, 1000, .inl u))]) A) [.ref h0, .long m_1].toArray s 0 0 A) (F0 m 3 ls []) := by
    intro n f H locs ls hn hb_ hP hD hS hl
    refine lv_iload_n hx hb dX7_feedEight_3 rfl (lv_at hl 0 rfl) ?_
    refine lv_if_lt (tgt := 88) hx hb dX7_feedEight_4 (by decide) (fun c_ => absurd c_ (by decide +kernel)) (fun _ => ?_)
    refine lv_lload_n hx hb dX7_feedEight_7 rfl (lv_at hl 2 rfl) ?_
    refine lv_iload_n hx hb dX7_feedEight_8 rfl (lv_at hl 0 rfl) ?_
    refine lv_lushr (v := ((m_1.toUInt64 >>> ((40 : Int32).toInt64.toUInt64 &&& Int64.toUInt64 63)).toInt64)) hx hb dX7_feedEight_9 rfl ?_
    refine lv_ldc2 (v := 255) hx hb hown (hts _ tb457) dX7_feedEight_10 ?_
    refine lv_land hx hb dX7_feedEight_13 ?_
    refine lv_l2i (v := ((((m_1.toUInt64 >>> ((40 : Int32).toInt64.toUInt64 &&& Int64.toUInt64 63)).toInt64) &&& 255).toInt32)) hx hb dX7_feedEight_14 rfl ?_
    obtain ⟨Sv, eSv⟩ : ∃ z : Int32, z = ((((m_1.toUInt64 >>> ((40 : Int32).toInt64.toUInt64 &&& Int64.toUInt64 63)).toInt64) &&& 255).toInt32) := ⟨_, rfl⟩
    refine relit (v := Sv) eSv.symm ?_
    refine lv_istore (lv' := [(4, .int Sv), (3, .int 40), (0, .ref h0), (1, .long m_1)]) hx hb dX7_feedEight_15 hl (by decide) rfl (fun ls hl => ?_)
    refine lv_iload hx hb dX7_feedEight_17 (lv_at hl 0 rfl) ?_
    refine lv_bipush (v := 10) hx hb dX7_feedEight_19 (by decide) ?_
    refine lv_icmp_eq (tgt := 38) hx hb dX7_feedEight_21 (by decide) (fun c53 => ?_) (fun c53 => ?_)
    · refine lv_iconst (v := 1) hx hb dX7_feedEight_38 (by decide) ?_
      refine lv_goto (tgt := 43) hx hb dX7_feedEight_39 (by decide) ?_
      refine lv_istore (lv' := [(5, .int 1), (4, .int Sv), (3, .int 40), (0, .ref h0), (1, .long m_1)]) hx hb dX7_feedEight_43 hl (by decide) rfl (fun ls hl => ?_)
      refine lv_iload hx hb dX7_feedEight_45 (lv_at hl 0 rfl) ?_
      refine lv_if_eq (tgt := 82) hx hb dX7_feedEight_47 (by decide) (fun c_ => absurd c_ (by decide +kernel)) (fun _ => ?_)
      refine lv_aload_n hx hb dX7_feedEight_50 rfl (lv_at hl 3 rfl) ?_
      refine xget F hP 0 rfl rfl inX7 0 (by decide) tb102 rfl dX7_feedEight_51 ?_
      refine lv_sipush (v := 1000) hx hb dX7_feedEight_54 (by decide) ?_
      refine lv_icmp_ge (tgt := 82) hx hb dX7_feedEight_57 (by decide) (fun c_ => absurd c_ (show ¬ (nI 1000 ≤ nI n) by rw [nI_leI (by omega) (by omega)]; omega)) (fun _ => ?_)
      refine lv_aload_n hx hb dX7_feedEight_60 rfl (lv_at hl 3 rfl) ?_
      refine xget F hP 0 rfl rfl inX7 2 (by decide) tb106 rfl dX7_feedEight_61 ?_
      refine lv_aload_n hx hb dX7_feedEight_64 rfl (lv_at hl 3 rfl) ?_
      refine xget F hP 0 rfl rfl inX7 0 (by decide) tb102 rfl dX7_feedEight_65 ?_
      refine lv_iload hx hb dX7_feedEight_68 (lv_at hl 1 rfl) ?_
      refine lv_i2c (v := ((Sv.toUInt32 % 65536).toInt32)) hx hb dX7_feedEight_70 rfl ?_
      refine xcstE F hP hD hS 1 rfl n (nI_pos (by omega)) (nI_clamp (by omega)) (by omega) dX7_feedEight_71 (fun f_55 H locs hP hD hS => ?_)
      have hP : va_P g vwCl [(h0, .inr (7, [.int (nI n), x1, .ref h1, x2, x3, x4, x5, x6, x7, x8])), (h1, .inl (aC 2, 1000, .inl f_55))] H := hP
      have hD : va_D A [(h0, .inr (7, [.int (nI n), x1, .ref h1, x2, x3, x4, x5, x6, x7, x8])), (h1, .inl (aC 2, 1000, .inl f_55))] := hD
      refine lv_aload_n hx hb dX7_feedEight_72 rfl (lv_at hl 3 rfl) ?_
      refine lv_dup hx hb dX7_feedEight_73 rfl ?_
      refine xget F hP 0 rfl rfl inX7 0 (by decide) tb102 rfl dX7_feedEight_74 ?_
      refine lv_iconst (v := 1) hx hb dX7_feedEight_77 (by decide) ?_
      refine lv_iadd hx hb dX7_feedEight_78 ?_
      refine relit (v := (nI (n + 1))) (nadd (a := n) (b := 1) (by omega)) ?_
      refine xput F hP hD hS 0 rfl rfl inX7 tyX7_ok nmX7 0 (by decide) tb102 rfl rfl rfl (Nat.le_of_ble_eq_true rfl) dX7_feedEight_79 (fun H locs hP hD hS => ?_)
      have hP : va_P g vwCl [(h0, .inr (7, [.int (nI (n + 1)), x1, .ref h1, x2, x3, x4, x5, x6, x7, x8])), (h1, .inl (aC 2, 1000, .inl f_55))] H := hP
      have hD : va_D A [(h0, .inr (7, [.int (nI (n + 1)), x1, .ref h1, x2, x3, x4, x5, x6, x7, x8])), (h1, .inl (aC 2, 1000, .inl f_55))] := hD
      refine lv_iinc (v := 32) (lv' := [(3, .int 32), (5, .int 1), (4, .int Sv), (0, .ref h0), (1, .long m_1)]) hx hb dX7_feedEight_82 hl (k := 2) rfl (by decide +kernel) (by decide) rfl (fun ls hl => ?_)
      refine lv_goto (tgt := 3) hx hb dX7_feedEight_85 (by decide) ?_
      exact hc3 (n + 1) f_55 _ _ _ (f8_up 2 hn eSv (okb_eq c53)) (by omega) (hP.sub [0, 1] rfl) (hD.sub [0, 1] (by decide) rfl) hS (lv_sub hl [0, 3, 4] rfl)
    · refine lv_iload hx hb dX7_feedEight_24 (lv_at hl 0 rfl) ?_
      refine lv_bipush (v := 32) hx hb dX7_feedEight_26 (by decide) ?_
      refine lv_icmp_lt (tgt := 42) hx hb dX7_feedEight_28 (by decide) (fun c56 => ?_) (fun c56 => ?_)
      · refine lv_iconst (v := 0) hx hb dX7_feedEight_42 (by decide) ?_
        refine lv_istore (lv' := [(5, .int 0), (4, .int Sv), (3, .int 40), (0, .ref h0), (1, .long m_1)]) hx hb dX7_feedEight_43 hl (by decide) rfl (fun ls hl => ?_)
        refine lv_iload hx hb dX7_feedEight_45 (lv_at hl 0 rfl) ?_
        refine lv_if_eq (tgt := 82) hx hb dX7_feedEight_47 (by decide) (fun _ => ?_) (fun c_ => absurd (by decide +kernel) c_)
        refine lv_iinc (v := 32) (lv' := [(3, .int 32), (5, .int 0), (4, .int Sv), (0, .ref h0), (1, .long m_1)]) hx hb dX7_feedEight_82 hl (k := 2) rfl (by decide +kernel) (by decide) rfl (fun ls hl => ?_)
        refine lv_goto (tgt := 3) hx hb dX7_feedEight_85 (by decide) ?_
        exact hc3 (n) f _ _ _ (f8_st 2 hn eSv (okb_lo c53 c56)) (by omega) (hP.sub [0, 1] rfl) (hD.sub [0, 1] (by decide) rfl) hS (lv_sub hl [0, 3, 4] rfl)
      · refine lv_iload hx hb dX7_feedEight_31 (lv_at hl 0 rfl) ?_
        refine lv_bipush (v := 126) hx hb dX7_feedEight_33 (by decide) ?_
        refine lv_icmp_gt (tgt := 42) hx hb dX7_feedEight_35 (by decide) (fun c58 => ?_) (fun c58 => ?_)
        · refine lv_iconst (v := 0) hx hb dX7_feedEight_42 (by decide) ?_
          refine lv_istore (lv' := [(5, .int 0), (4, .int Sv), (3, .int 40), (0, .ref h0), (1, .long m_1)]) hx hb dX7_feedEight_43 hl (by decide) rfl (fun ls hl => ?_)
          refine lv_iload hx hb dX7_feedEight_45 (lv_at hl 0 rfl) ?_
          refine lv_if_eq (tgt := 82) hx hb dX7_feedEight_47 (by decide) (fun _ => ?_) (fun c_ => absurd (by decide +kernel) c_)
          refine lv_iinc (v := 32) (lv' := [(3, .int 32), (5, .int 0), (4, .int Sv), (0, .ref h0), (1, .long m_1)]) hx hb dX7_feedEight_82 hl (k := 2) rfl (by decide +kernel) (by decide) rfl (fun ls hl => ?_)
          refine lv_goto (tgt := 3) hx hb dX7_feedEight_85 (by decide) ?_
          exact hc3 (n) f _ _ _ (f8_st 2 hn eSv (okb_hi c53 c58)) (by omega) (hP.sub [0, 1] rfl) (hD.sub [0, 1] (by decide) rfl) hS (lv_sub hl [0, 3, 4] rfl)
        · refine lv_iconst (v := 1) hx hb dX7_feedEight_38 (by decide) ?_
          refine lv_goto (tgt := 43) hx hb dX7_feedEight_39 (by decide) ?_
          refine lv_istore (lv' := [(5, .int 1), (4, .int Sv), (3, .int 40), (0, .ref h0), (1, .long m_1)]) hx hb dX7_feedEight_43 hl (by decide) rfl (fun ls hl => ?_)
          refine lv_iload hx hb dX7_feedEight_45 (lv_at hl 0 rfl) ?_
          refine lv_if_eq (tgt := 82) hx hb dX7_feedEight_47 (by decide) (fun c_ => absurd c_ (by decide +kernel)) (fun _ => ?_)
          refine lv_aload_n hx hb dX7_feedEight_50 rfl (lv_at hl 3 rfl) ?_
          refine xget F hP 0 rfl rfl inX7 0 (by decide) tb102 rfl dX7_feedEight_51 ?_
          refine lv_sipush (v := 1000) hx hb dX7_feedEight_54 (by decide) ?_
          refine lv_icmp_ge (tgt := 82) hx hb dX7_feedEight_57 (by decide) (fun c_ => absurd c_ (show ¬ (nI 1000 ≤ nI n) by rw [nI_leI (by omega) (by omega)]; omega)) (fun _ => ?_)
          refine lv_aload_n hx hb dX7_feedEight_60 rfl (lv_at hl 3 rfl) ?_
          refine xget F hP 0 rfl rfl inX7 2 (by decide) tb106 rfl dX7_feedEight_61 ?_
          refine lv_aload_n hx hb dX7_feedEight_64 rfl (lv_at hl 3 rfl) ?_
          refine xget F hP 0 rfl rfl inX7 0 (by decide) tb102 rfl dX7_feedEight_65 ?_
          refine lv_iload hx hb dX7_feedEight_68 (lv_at hl 1 rfl) ?_
          refine lv_i2c (v := ((Sv.toUInt32 % 65536).toInt32)) hx hb dX7_feedEight_70 rfl ?_
          refine xcstE F hP hD hS 1 rfl n (nI_pos (by omega)) (nI_clamp (by omega)) (by omega) dX7_feedEight_71 (fun f_61 H locs hP hD hS => ?_)
          have hP : va_P g vwCl [(h0, .inr (7, [.int (nI n), x1, .ref h1, x2, x3, x4, x5, x6, x7, x8])), (h1, .inl (aC 2, 1000, .inl f_61))] H := hP
          have hD : va_D A [(h0, .inr (7, [.int (nI n), x1, .ref h1, x2, x3, x4, x5, x6, x7, x8])), (h1, .inl (aC 2, 1000, .inl f_61))] := hD
          refine lv_aload_n hx hb dX7_feedEight_72 rfl (lv_at hl 3 rfl) ?_
          refine lv_dup hx hb dX7_feedEight_73 rfl ?_
          refine xget F hP 0 rfl rfl inX7 0 (by decide) tb102 rfl dX7_feedEight_74 ?_
          refine lv_iconst (v := 1) hx hb dX7_feedEight_77 (by decide) ?_
          refine lv_iadd hx hb dX7_feedEight_78 ?_
          refine relit (v := (nI (n + 1))) (nadd (a := n) (b := 1) (by omega)) ?_
          refine xput F hP hD hS 0 rfl rfl inX7 tyX7_ok nmX7 0 (by decide) tb102 rfl rfl rfl (Nat.le_of_ble_eq_true rfl) dX7_feedEight_79 (fun H locs hP hD hS => ?_)
          have hP : va_P g vwCl [(h0, .inr (7, [.int (nI (n + 1)), x1, .ref h1, x2, x3, x4, x5, x6, x7, x8])), (h1, .inl (aC 2, 1000, .inl f_61))] H := hP
          have hD : va_D A [(h0, .inr (7, [.int (nI (n + 1)), x1, .ref h1, x2, x3, x4, x5, x6, x7, x8])), (h1, .inl (aC 2, 1000, .inl f_61))] := hD
          refine lv_iinc (v := 32) (lv' := [(3, .int 32), (5, .int 1), (4, .int Sv), (0, .ref h0), (1, .long m_1)]) hx hb dX7_feedEight_82 hl (k := 2) rfl (by decide +kernel) (by decide) rfl (fun ls hl => ?_)
          refine lv_goto (tgt := 3) hx hb dX7_feedEight_85 (by decide) ?_
          exact hc3 (n + 1) f_61 _ _ _ (f8_up 2 hn eSv (okb_in c56 c58)) (by omega) (hP.sub [0, 1] rfl) (hD.sub [0, 1] (by decide) rfl) hS (lv_sub hl [0, 3, 4] rfl)
  have hc1 : ∀ (n : Nat) (f : Nat → Int32) (H : Heap) (locs : List Loc) (ls : Array Slot), n = n0 + f8 m_1 1 → n ≤ 17 → va_P g vwCl [(h0, .inr (7, [.int (nI n), x1, .ref h1, x2, x3, x4, x5, x6, x7, x8])), (h1, .inl (aC 2, 1000, .inl f))] H → va_D A [(h0, .inr (7, [.int (nI n), x1, .ref h1, x2, x3, x4, x5, x6, x7, x8])), (h1, .inl (aC 2, 1000, .inl f))] → va_S A s.heap H locs → lv_has ls 6 [(3, .int 48), (0, .ref h0), (1, .long m_1)] → W p l e (rmL 1 0 0) s m [.ref h0, .long m_1].toArray below meth c H locs 0 0 (MQ below (QV g (fun (u : Nat → Int32) => True) (fun (u : Nat → Int32) => [(h0, .inr (7, [.int (nI (n0 + f8 m_1 8)), x1, .ref h1, x2, x3, x4, x5, x6, x7, x8])), (h1, .inl (aC 2, 1000, .inl u))]) A) [.ref h0, .long m_1].toArray s 0 0 A) (F0 m 3 ls []) := by
    intro n f H locs ls hn hb_ hP hD hS hl
    refine lv_iload_n hx hb dX7_feedEight_3 rfl (lv_at hl 0 rfl) ?_
    refine lv_if_lt (tgt := 88) hx hb dX7_feedEight_4 (by decide) (fun c_ => absurd c_ (by decide +kernel)) (fun _ => ?_)
    refine lv_lload_n hx hb dX7_feedEight_7 rfl (lv_at hl 2 rfl) ?_
    refine lv_iload_n hx hb dX7_feedEight_8 rfl (lv_at hl 0 rfl) ?_
    refine lv_lushr (v := ((m_1.toUInt64 >>> ((48 : Int32).toInt64.toUInt64 &&& Int64.toUInt64 63)).toInt64)) hx hb dX7_feedEight_9 rfl ?_
    refine lv_ldc2 (v := 255) hx hb hown (hts _ tb457) dX7_feedEight_10 ?_
    refine lv_land hx hb dX7_feedEight_13 ?_
    refine lv_l2i (v := ((((m_1.toUInt64 >>> ((48 : Int32).toInt64.toUInt64 &&& Int64.toUInt64 63)).toInt64) &&& 255).toInt32)) hx hb dX7_feedEight_14 rfl ?_
    obtain ⟨Sv, eSv⟩ : ∃ z : Int32, z = ((((m_1.toUInt64 >>> ((48 : Int32).toInt64.toUInt64 &&& Int64.toUInt64 63)).toInt64) &&& 255).toInt32) := ⟨_, rfl⟩
    refine relit (v := Sv) eSv.symm ?_
    refine lv_istore (lv' := [(4, .int Sv), (3, .int 48), (0, .ref h0), (1, .long m_1)]) hx hb dX7_feedEight_15 hl (by decide) rfl (fun ls hl => ?_)
    refine lv_iload hx hb dX7_feedEight_17 (lv_at hl 0 rfl) ?_
    refine lv_bipush (v := 10) hx hb dX7_feedEight_19 (by decide) ?_
    refine lv_icmp_eq (tgt := 38) hx hb dX7_feedEight_21 (by decide) (fun c63 => ?_) (fun c63 => ?_)
    · refine lv_iconst (v := 1) hx hb dX7_feedEight_38 (by decide) ?_
      refine lv_goto (tgt := 43) hx hb dX7_feedEight_39 (by decide) ?_
      refine lv_istore (lv' := [(5, .int 1), (4, .int Sv), (3, .int 48), (0, .ref h0), (1, .long m_1)]) hx hb dX7_feedEight_43 hl (by decide) rfl (fun ls hl => ?_)
      refine lv_iload hx hb dX7_feedEight_45 (lv_at hl 0 rfl) ?_
      refine lv_if_eq (tgt := 82) hx hb dX7_feedEight_47 (by decide) (fun c_ => absurd c_ (by decide +kernel)) (fun _ => ?_)
      refine lv_aload_n hx hb dX7_feedEight_50 rfl (lv_at hl 3 rfl) ?_
      refine xget F hP 0 rfl rfl inX7 0 (by decide) tb102 rfl dX7_feedEight_51 ?_
      refine lv_sipush (v := 1000) hx hb dX7_feedEight_54 (by decide) ?_
      refine lv_icmp_ge (tgt := 82) hx hb dX7_feedEight_57 (by decide) (fun c_ => absurd c_ (show ¬ (nI 1000 ≤ nI n) by rw [nI_leI (by omega) (by omega)]; omega)) (fun _ => ?_)
      refine lv_aload_n hx hb dX7_feedEight_60 rfl (lv_at hl 3 rfl) ?_
      refine xget F hP 0 rfl rfl inX7 2 (by decide) tb106 rfl dX7_feedEight_61 ?_
      refine lv_aload_n hx hb dX7_feedEight_64 rfl (lv_at hl 3 rfl) ?_
      refine xget F hP 0 rfl rfl inX7 0 (by decide) tb102 rfl dX7_feedEight_65 ?_
      refine lv_iload hx hb dX7_feedEight_68 (lv_at hl 1 rfl) ?_
      refine lv_i2c (v := ((Sv.toUInt32 % 65536).toInt32)) hx hb dX7_feedEight_70 rfl ?_
      refine xcstE F hP hD hS 1 rfl n (nI_pos (by omega)) (nI_clamp (by omega)) (by omega) dX7_feedEight_71 (fun f_65 H locs hP hD hS => ?_)
      have hP : va_P g vwCl [(h0, .inr (7, [.int (nI n), x1, .ref h1, x2, x3, x4, x5, x6, x7, x8])), (h1, .inl (aC 2, 1000, .inl f_65))] H := hP
      have hD : va_D A [(h0, .inr (7, [.int (nI n), x1, .ref h1, x2, x3, x4, x5, x6, x7, x8])), (h1, .inl (aC 2, 1000, .inl f_65))] := hD
      refine lv_aload_n hx hb dX7_feedEight_72 rfl (lv_at hl 3 rfl) ?_
      refine lv_dup hx hb dX7_feedEight_73 rfl ?_
      refine xget F hP 0 rfl rfl inX7 0 (by decide) tb102 rfl dX7_feedEight_74 ?_
      refine lv_iconst (v := 1) hx hb dX7_feedEight_77 (by decide) ?_
      refine lv_iadd hx hb dX7_feedEight_78 ?_
      refine relit (v := (nI (n + 1))) (nadd (a := n) (b := 1) (by omega)) ?_
      refine xput F hP hD hS 0 rfl rfl inX7 tyX7_ok nmX7 0 (by decide) tb102 rfl rfl rfl (Nat.le_of_ble_eq_true rfl) dX7_feedEight_79 (fun H locs hP hD hS => ?_)
      have hP : va_P g vwCl [(h0, .inr (7, [.int (nI (n + 1)), x1, .ref h1, x2, x3, x4, x5, x6, x7, x8])), (h1, .inl (aC 2, 1000, .inl f_65))] H := hP
      have hD : va_D A [(h0, .inr (7, [.int (nI (n + 1)), x1, .ref h1, x2, x3, x4, x5, x6, x7, x8])), (h1, .inl (aC 2, 1000, .inl f_65))] := hD
      refine lv_iinc (v := 40) (lv' := [(3, .int 40), (5, .int 1), (4, .int Sv), (0, .ref h0), (1, .long m_1)]) hx hb dX7_feedEight_82 hl (k := 2) rfl (by decide +kernel) (by decide) rfl (fun ls hl => ?_)
      refine lv_goto (tgt := 3) hx hb dX7_feedEight_85 (by decide) ?_
      exact hc2 (n + 1) f_65 _ _ _ (f8_up 1 hn eSv (okb_eq c63)) (by omega) (hP.sub [0, 1] rfl) (hD.sub [0, 1] (by decide) rfl) hS (lv_sub hl [0, 3, 4] rfl)
    · refine lv_iload hx hb dX7_feedEight_24 (lv_at hl 0 rfl) ?_
      refine lv_bipush (v := 32) hx hb dX7_feedEight_26 (by decide) ?_
      refine lv_icmp_lt (tgt := 42) hx hb dX7_feedEight_28 (by decide) (fun c66 => ?_) (fun c66 => ?_)
      · refine lv_iconst (v := 0) hx hb dX7_feedEight_42 (by decide) ?_
        refine lv_istore (lv' := [(5, .int 0), (4, .int Sv), (3, .int 48), (0, .ref h0), (1, .long m_1)]) hx hb dX7_feedEight_43 hl (by decide) rfl (fun ls hl => ?_)
        refine lv_iload hx hb dX7_feedEight_45 (lv_at hl 0 rfl) ?_
        refine lv_if_eq (tgt := 82) hx hb dX7_feedEight_47 (by decide) (fun _ => ?_) (fun c_ => absurd (by decide +kernel) c_)
        refine lv_iinc (v := 40) (lv' := [(3, .int 40), (5, .int 0), (4, .int Sv), (0, .ref h0), (1, .long m_1)]) hx hb dX7_feedEight_82 hl (k := 2) rfl (by decide +kernel) (by decide) rfl (fun ls hl => ?_)
        refine lv_goto (tgt := 3) hx hb dX7_feedEight_85 (by decide) ?_
        exact hc2 (n) f _ _ _ (f8_st 1 hn eSv (okb_lo c63 c66)) (by omega) (hP.sub [0, 1] rfl) (hD.sub [0, 1] (by decide) rfl) hS (lv_sub hl [0, 3, 4] rfl)
      · refine lv_iload hx hb dX7_feedEight_31 (lv_at hl 0 rfl) ?_
        refine lv_bipush (v := 126) hx hb dX7_feedEight_33 (by decide) ?_
        refine lv_icmp_gt (tgt := 42) hx hb dX7_feedEight_35 (by decide) (fun c68 => ?_) (fun c68 => ?_)
        · refine lv_iconst (v := 0) hx hb dX7_feedEight_42 (by decide) ?_
          refine lv_istore (lv' := [(5, .int 0), (4, .int Sv), (3, .int 48), (0, .ref h0), (1, .long m_1)]) hx hb dX7_feedEight_43 hl (by decide) rfl (fun ls hl => ?_)
          refine lv_iload hx hb dX7_feedEight_45 (lv_at hl 0 rfl) ?_
          refine lv_if_eq (tgt := 82) hx hb dX7_feedEight_47 (by decide) (fun _ => ?_) (fun c_ => absurd (by decide +kernel) c_)
          refine lv_iinc (v := 40) (lv' := [(3, .int 40), (5, .int 0), (4, .int Sv), (0, .ref h0), (1, .long m_1)]) hx hb dX7_feedEight_82 hl (k := 2) rfl (by decide +kernel) (by decide) rfl (fun ls hl => ?_)
          refine lv_goto (tgt := 3) hx hb dX7_feedEight_85 (by decide) ?_
          exact hc2 (n) f _ _ _ (f8_st 1 hn eSv (okb_hi c63 c68)) (by omega) (hP.sub [0, 1] rfl) (hD.sub [0, 1] (by decide) rfl) hS (lv_sub hl [0, 3, 4] rfl)
        · refine lv_iconst (v := 1) hx hb dX7_feedEight_38 (by decide) ?_
          refine lv_goto (tgt := 43) hx hb dX7_feedEight_39 (by decide) ?_
          refine lv_istore (lv' := [(5, .int 1), (4, .int Sv), (3, .int 48), (0, .ref h0), (1, .long m_1)]) hx hb dX7_feedEight_43 hl (by decide) rfl (fun ls hl => ?_)
          refine lv_iload hx hb dX7_feedEight_45 (lv_at hl 0 rfl) ?_
          refine lv_if_eq (tgt := 82) hx hb dX7_feedEight_47 (by decide) (fun c_ => absurd c_ (by decide +kernel)) (fun _ => ?_)
          refine lv_aload_n hx hb dX7_feedEight_50 rfl (lv_at hl 3 rfl) ?_
          refine xget F hP 0 rfl rfl inX7 0 (by decide) tb102 rfl dX7_feedEight_51 ?_
          refine lv_sipush (v := 1000) hx hb dX7_feedEight_54 (by decide) ?_
          refine lv_icmp_ge (tgt := 82) hx hb dX7_feedEight_57 (by decide) (fun c_ => absurd c_ (show ¬ (nI 1000 ≤ nI n) by rw [nI_leI (by omega) (by omega)]; omega)) (fun _ => ?_)
          refine lv_aload_n hx hb dX7_feedEight_60 rfl (lv_at hl 3 rfl) ?_
          refine xget F hP 0 rfl rfl inX7 2 (by decide) tb106 rfl dX7_feedEight_61 ?_
          refine lv_aload_n hx hb dX7_feedEight_64 rfl (lv_at hl 3 rfl) ?_
          refine xget F hP 0 rfl rfl inX7 0 (by decide) tb102 rfl dX7_feedEight_65 ?_
          refine lv_iload hx hb dX7_feedEight_68 (lv_at hl 1 rfl) ?_
          refine lv_i2c (v := ((Sv.toUInt32 % 65536).toInt32)) hx hb dX7_feedEight_70 rfl ?_
          refine xcstE F hP hD hS 1 rfl n (nI_pos (by omega)) (nI_clamp (by omega)) (by omega) dX7_feedEight_71 (fun f_71 H locs hP hD hS => ?_)
          have hP : va_P g vwCl [(h0, .inr (7, [.int (nI n), x1, .ref h1, x2, x3, x4, x5, x6, x7, x8])), (h1, .inl (aC 2, 1000, .inl f_71))] H := hP
          have hD : va_D A [(h0, .inr (7, [.int (nI n), x1, .ref h1, x2, x3, x4, x5, x6, x7, x8])), (h1, .inl (aC 2, 1000, .inl f_71))] := hD
          refine lv_aload_n hx hb dX7_feedEight_72 rfl (lv_at hl 3 rfl) ?_
          refine lv_dup hx hb dX7_feedEight_73 rfl ?_
          refine xget F hP 0 rfl rfl inX7 0 (by decide) tb102 rfl dX7_feedEight_74 ?_
          refine lv_iconst (v := 1) hx hb dX7_feedEight_77 (by decide) ?_
          refine lv_iadd hx hb dX7_feedEight_78 ?_
          refine relit (v := (nI (n + 1))) (nadd (a := n) (b := 1) (by omega)) ?_
          refine xput F hP hD hS 0 rfl rfl inX7 tyX7_ok nmX7 0 (by decide) tb102 rfl rfl rfl (Nat.le_of_ble_eq_true rfl) dX7_feedEight_79 (fun H locs hP hD hS => ?_)
          have hP : va_P g vwCl [(h0, .inr (7, [.int (nI (n + 1)), x1, .ref h1, x2, x3, x4, x5, x6, x7, x8])), (h1, .inl (aC 2, 1000, .inl f_71))] H := hP
          have hD : va_D A [(h0, .inr (7, [.int (nI (n + 1)), x1, .ref h1, x2, x3, x4, x5, x6, x7, x8])), (h1, .inl (aC 2, 1000, .inl f_71))] := hD
          refine lv_iinc (v := 40) (lv' := [(3, .int 40), (5, .int 1), (4, .int Sv), (0, .ref h0), (1, .long m_1)]) hx hb dX7_feedEight_82 hl (k := 2) rfl (by decide +kernel) (by decide) rfl (fun ls hl => ?_)
          refine lv_goto (tgt := 3) hx hb dX7_feedEight_85 (by decide) ?_
          exact hc2 (n + 1) f_71 _ _ _ (f8_up 1 hn eSv (okb_in c66 c68)) (by omega) (hP.sub [0, 1] rfl) (hD.sub [0, 1] (by decide) rfl) hS (lv_sub hl [0, 3, 4] rfl)
  have hc0 : ∀ (n : Nat) (f : Nat → Int32) (H : Heap) (locs : List Loc) (ls : Array Slot), n = n0 + f8 m_1 0 → n ≤ 16 → va_P g vwCl [(h0, .inr (7, [.int (nI n), x1, .ref h1, x2, x3, x4, x5, x6, x7, x8])), (h1, .inl (aC 2, 1000, .inl f))] H → va_D A [(h0, .inr (7, [.int (nI n), x1, .ref h1, x2, x3, x4, x5, x6, x7, x8])), (h1, .inl (aC 2, 1000, .inl f))] → va_S A s.heap H locs → lv_has ls 6 [(3, .int 56), (0, .ref h0), (1, .long m_1)] → W p l e (rmL 1 0 0) s m [.ref h0, .long m_1].toArray below meth c H locs 0 0 (MQ below (QV g (fun (u : Nat → Int32) => True) (fun (u : Nat → Int32) => [(h0, .inr (7, [.int (nI (n0 + f8 m_1 8)), x1, .ref h1, x2, x3, x4, x5, x6, x7, x8])), (h1, .inl (aC 2, 1000, .inl u))]) A) [.ref h0, .long m_1].toArray s 0 0 A) (F0 m 3 ls []) := by
    intro n f H locs ls hn hb_ hP hD hS hl
    refine lv_iload_n hx hb dX7_feedEight_3 rfl (lv_at hl 0 rfl) ?_
    refine lv_if_lt (tgt := 88) hx hb dX7_feedEight_4 (by decide) (fun c_ => absurd c_ (by decide +kernel)) (fun _ => ?_)
    refine lv_lload_n hx hb dX7_feedEight_7 rfl (lv_at hl 2 rfl) ?_
    refine lv_iload_n hx hb dX7_feedEight_8 rfl (lv_at hl 0 rfl) ?_
    refine lv_lushr (v := ((m_1.toUInt64 >>> ((56 : Int32).toInt64.toUInt64 &&& Int64.toUInt64 63)).toInt64)) hx hb dX7_feedEight_9 rfl ?_
    refine lv_ldc2 (v := 255) hx hb hown (hts _ tb457) dX7_feedEight_10 ?_
    refine lv_land hx hb dX7_feedEight_13 ?_
    refine lv_l2i (v := ((((m_1.toUInt64 >>> ((56 : Int32).toInt64.toUInt64 &&& Int64.toUInt64 63)).toInt64) &&& 255).toInt32)) hx hb dX7_feedEight_14 rfl ?_
    obtain ⟨Sv, eSv⟩ : ∃ z : Int32, z = ((((m_1.toUInt64 >>> ((56 : Int32).toInt64.toUInt64 &&& Int64.toUInt64 63)).toInt64) &&& 255).toInt32) := ⟨_, rfl⟩
    refine relit (v := Sv) eSv.symm ?_
    refine lv_istore (lv' := [(4, .int Sv), (3, .int 56), (0, .ref h0), (1, .long m_1)]) hx hb dX7_feedEight_15 hl (by decide) rfl (fun ls hl => ?_)
    refine lv_iload hx hb dX7_feedEight_17 (lv_at hl 0 rfl) ?_
    refine lv_bipush (v := 10) hx hb dX7_feedEight_19 (by decide) ?_
    refine lv_icmp_eq (tgt := 38) hx hb dX7_feedEight_21 (by decide) (fun c73 => ?_) (fun c73 => ?_)
    · refine lv_iconst (v := 1) hx hb dX7_feedEight_38 (by decide) ?_
      refine lv_goto (tgt := 43) hx hb dX7_feedEight_39 (by decide) ?_
      refine lv_istore (lv' := [(5, .int 1), (4, .int Sv), (3, .int 56), (0, .ref h0), (1, .long m_1)]) hx hb dX7_feedEight_43 hl (by decide) rfl (fun ls hl => ?_)
      refine lv_iload hx hb dX7_feedEight_45 (lv_at hl 0 rfl) ?_
      refine lv_if_eq (tgt := 82) hx hb dX7_feedEight_47 (by decide) (fun c_ => absurd c_ (by decide +kernel)) (fun _ => ?_)
      refine lv_aload_n hx hb dX7_feedEight_50 rfl (lv_at hl 3 rfl) ?_
      refine xget F hP 0 rfl rfl inX7 0 (by decide) tb102 rfl dX7_feedEight_51 ?_
      refine lv_sipush (v := 1000) hx hb dX7_feedEight_54 (by decide) ?_
      refine lv_icmp_ge (tgt := 82) hx hb dX7_feedEight_57 (by decide) (fun c_ => absurd c_ (show ¬ (nI 1000 ≤ nI n) by rw [nI_leI (by omega) (by omega)]; omega)) (fun _ => ?_)
      refine lv_aload_n hx hb dX7_feedEight_60 rfl (lv_at hl 3 rfl) ?_
      refine xget F hP 0 rfl rfl inX7 2 (by decide) tb106 rfl dX7_feedEight_61 ?_
      refine lv_aload_n hx hb dX7_feedEight_64 rfl (lv_at hl 3 rfl) ?_
      refine xget F hP 0 rfl rfl inX7 0 (by decide) tb102 rfl dX7_feedEight_65 ?_
      refine lv_iload hx hb dX7_feedEight_68 (lv_at hl 1 rfl) ?_
      refine lv_i2c (v := ((Sv.toUInt32 % 65536).toInt32)) hx hb dX7_feedEight_70 rfl ?_
      refine xcstE F hP hD hS 1 rfl n (nI_pos (by omega)) (nI_clamp (by omega)) (by omega) dX7_feedEight_71 (fun f_75 H locs hP hD hS => ?_)
      have hP : va_P g vwCl [(h0, .inr (7, [.int (nI n), x1, .ref h1, x2, x3, x4, x5, x6, x7, x8])), (h1, .inl (aC 2, 1000, .inl f_75))] H := hP
      have hD : va_D A [(h0, .inr (7, [.int (nI n), x1, .ref h1, x2, x3, x4, x5, x6, x7, x8])), (h1, .inl (aC 2, 1000, .inl f_75))] := hD
      refine lv_aload_n hx hb dX7_feedEight_72 rfl (lv_at hl 3 rfl) ?_
      refine lv_dup hx hb dX7_feedEight_73 rfl ?_
      refine xget F hP 0 rfl rfl inX7 0 (by decide) tb102 rfl dX7_feedEight_74 ?_
      refine lv_iconst (v := 1) hx hb dX7_feedEight_77 (by decide) ?_
      refine lv_iadd hx hb dX7_feedEight_78 ?_
      refine relit (v := (nI (n + 1))) (nadd (a := n) (b := 1) (by omega)) ?_
      refine xput F hP hD hS 0 rfl rfl inX7 tyX7_ok nmX7 0 (by decide) tb102 rfl rfl rfl (Nat.le_of_ble_eq_true rfl) dX7_feedEight_79 (fun H locs hP hD hS => ?_)
      have hP : va_P g vwCl [(h0, .inr (7, [.int (nI (n + 1)), x1, .ref h1, x2, x3, x4, x5, x6, x7, x8])), (h1, .inl (aC 2, 1000, .inl f_75))] H := hP
      have hD : va_D A [(h0, .inr (7, [.int (nI (n + 1)), x1, .ref h1, x2, x3, x4, x5, x6, x7, x8])), (h1, .inl (aC 2, 1000, .inl f_75))] := hD
      refine lv_iinc (v := 48) (lv' := [(3, .int 48), (5, .int 1), (4, .int Sv), (0, .ref h0), (1, .long m_1)]) hx hb dX7_feedEight_82 hl (k := 2) rfl (by decide +kernel) (by decide) rfl (fun ls hl => ?_)
      refine lv_goto (tgt := 3) hx hb dX7_feedEight_85 (by decide) ?_
      exact hc1 (n + 1) f_75 _ _ _ (f8_up 0 hn eSv (okb_eq c73)) (by omega) (hP.sub [0, 1] rfl) (hD.sub [0, 1] (by decide) rfl) hS (lv_sub hl [0, 3, 4] rfl)
    · refine lv_iload hx hb dX7_feedEight_24 (lv_at hl 0 rfl) ?_
      refine lv_bipush (v := 32) hx hb dX7_feedEight_26 (by decide) ?_
      refine lv_icmp_lt (tgt := 42) hx hb dX7_feedEight_28 (by decide) (fun c76 => ?_) (fun c76 => ?_)
      · refine lv_iconst (v := 0) hx hb dX7_feedEight_42 (by decide) ?_
        refine lv_istore (lv' := [(5, .int 0), (4, .int Sv), (3, .int 56), (0, .ref h0), (1, .long m_1)]) hx hb dX7_feedEight_43 hl (by decide) rfl (fun ls hl => ?_)
        refine lv_iload hx hb dX7_feedEight_45 (lv_at hl 0 rfl) ?_
        refine lv_if_eq (tgt := 82) hx hb dX7_feedEight_47 (by decide) (fun _ => ?_) (fun c_ => absurd (by decide +kernel) c_)
        refine lv_iinc (v := 48) (lv' := [(3, .int 48), (5, .int 0), (4, .int Sv), (0, .ref h0), (1, .long m_1)]) hx hb dX7_feedEight_82 hl (k := 2) rfl (by decide +kernel) (by decide) rfl (fun ls hl => ?_)
        refine lv_goto (tgt := 3) hx hb dX7_feedEight_85 (by decide) ?_
        exact hc1 (n) f _ _ _ (f8_st 0 hn eSv (okb_lo c73 c76)) (by omega) (hP.sub [0, 1] rfl) (hD.sub [0, 1] (by decide) rfl) hS (lv_sub hl [0, 3, 4] rfl)
      · refine lv_iload hx hb dX7_feedEight_31 (lv_at hl 0 rfl) ?_
        refine lv_bipush (v := 126) hx hb dX7_feedEight_33 (by decide) ?_
        refine lv_icmp_gt (tgt := 42) hx hb dX7_feedEight_35 (by decide) (fun c78 => ?_) (fun c78 => ?_)
        · refine lv_iconst (v := 0) hx hb dX7_feedEight_42 (by decide) ?_
          refine lv_istore (lv' := [(5, .int 0), (4, .int Sv), (3, .int 56), (0, .ref h0), (1, .long m_1)]) hx hb dX7_feedEight_43 hl (by decide) rfl (fun ls hl => ?_)
          refine lv_iload hx hb dX7_feedEight_45 (lv_at hl 0 rfl) ?_
          refine lv_if_eq (tgt := 82) hx hb dX7_feedEight_47 (by decide) (fun _ => ?_) (fun c_ => absurd (by decide +kernel) c_)
          refine lv_iinc (v := 48) (lv' := [(3, .int 48), (5, .int 0), (4, .int Sv), (0, .ref h0), (1, .long m_1)]) hx hb dX7_feedEight_82 hl (k := 2) rfl (by decide +kernel) (by decide) rfl (fun ls hl => ?_)
          refine lv_goto (tgt := 3) hx hb dX7_feedEight_85 (by decide) ?_
          exact hc1 (n) f _ _ _ (f8_st 0 hn eSv (okb_hi c73 c78)) (by omega) (hP.sub [0, 1] rfl) (hD.sub [0, 1] (by decide) rfl) hS (lv_sub hl [0, 3, 4] rfl)
        · refine lv_iconst (v := 1) hx hb dX7_feedEight_38 (by decide) ?_
          refine lv_goto (tgt := 43) hx hb dX7_feedEight_39 (by decide) ?_
          refine lv_istore (lv' := [(5, .int 1), (4, .int Sv), (3, .int 56), (0, .ref h0), (1, .long m_1)]) hx hb dX7_feedEight_43 hl (by decide) rfl (fun ls hl => ?_)
          refine lv_iload hx hb dX7_feedEight_45 (lv_at hl 0 rfl) ?_
          refine lv_if_eq (tgt := 82) hx hb dX7_feedEight_47 (by decide) (fun c_ => absurd c_ (by decide +kernel)) (fun _ => ?_)
          refine lv_aload_n hx hb dX7_feedEight_50 rfl (lv_at hl 3 rfl) ?_
          refine xget F hP 0 rfl rfl inX7 0 (by decide) tb102 rfl dX7_feedEight_51 ?_
          refine lv_sipush (v := 1000) hx hb dX7_feedEight_54 (by decide) ?_
          refine lv_icmp_ge (tgt := 82) hx hb dX7_feedEight_57 (by decide) (fun c_ => absurd c_ (show ¬ (nI 1000 ≤ nI n) by rw [nI_leI (by omega) (by omega)]; omega)) (fun _ => ?_)
          refine lv_aload_n hx hb dX7_feedEight_60 rfl (lv_at hl 3 rfl) ?_
          refine xget F hP 0 rfl rfl inX7 2 (by decide) tb106 rfl dX7_feedEight_61 ?_
          refine lv_aload_n hx hb dX7_feedEight_64 rfl (lv_at hl 3 rfl) ?_
          refine xget F hP 0 rfl rfl inX7 0 (by decide) tb102 rfl dX7_feedEight_65 ?_
          refine lv_iload hx hb dX7_feedEight_68 (lv_at hl 1 rfl) ?_
          refine lv_i2c (v := ((Sv.toUInt32 % 65536).toInt32)) hx hb dX7_feedEight_70 rfl ?_
          refine xcstE F hP hD hS 1 rfl n (nI_pos (by omega)) (nI_clamp (by omega)) (by omega) dX7_feedEight_71 (fun f_81 H locs hP hD hS => ?_)
          have hP : va_P g vwCl [(h0, .inr (7, [.int (nI n), x1, .ref h1, x2, x3, x4, x5, x6, x7, x8])), (h1, .inl (aC 2, 1000, .inl f_81))] H := hP
          have hD : va_D A [(h0, .inr (7, [.int (nI n), x1, .ref h1, x2, x3, x4, x5, x6, x7, x8])), (h1, .inl (aC 2, 1000, .inl f_81))] := hD
          refine lv_aload_n hx hb dX7_feedEight_72 rfl (lv_at hl 3 rfl) ?_
          refine lv_dup hx hb dX7_feedEight_73 rfl ?_
          refine xget F hP 0 rfl rfl inX7 0 (by decide) tb102 rfl dX7_feedEight_74 ?_
          refine lv_iconst (v := 1) hx hb dX7_feedEight_77 (by decide) ?_
          refine lv_iadd hx hb dX7_feedEight_78 ?_
          refine relit (v := (nI (n + 1))) (nadd (a := n) (b := 1) (by omega)) ?_
          refine xput F hP hD hS 0 rfl rfl inX7 tyX7_ok nmX7 0 (by decide) tb102 rfl rfl rfl (Nat.le_of_ble_eq_true rfl) dX7_feedEight_79 (fun H locs hP hD hS => ?_)
          have hP : va_P g vwCl [(h0, .inr (7, [.int (nI (n + 1)), x1, .ref h1, x2, x3, x4, x5, x6, x7, x8])), (h1, .inl (aC 2, 1000, .inl f_81))] H := hP
          have hD : va_D A [(h0, .inr (7, [.int (nI (n + 1)), x1, .ref h1, x2, x3, x4, x5, x6, x7, x8])), (h1, .inl (aC 2, 1000, .inl f_81))] := hD
          refine lv_iinc (v := 48) (lv' := [(3, .int 48), (5, .int 1), (4, .int Sv), (0, .ref h0), (1, .long m_1)]) hx hb dX7_feedEight_82 hl (k := 2) rfl (by decide +kernel) (by decide) rfl (fun ls hl => ?_)
          refine lv_goto (tgt := 3) hx hb dX7_feedEight_85 (by decide) ?_
          exact hc1 (n + 1) f_81 _ _ _ (f8_up 0 hn eSv (okb_in c76 c78)) (by omega) (hP.sub [0, 1] rfl) (hD.sub [0, 1] (by decide) rfl) hS (lv_sub hl [0, 3, 4] rfl)
  exact hc0 n0 f0 _ _ _ rfl (by omega) hP hD hS hl

theorem tb453 : (Jvm.Cond.methodLink "StairGang" (95 : Nat) ({ cls := "StairGang$Tokens", name := "feedEight", desc := "(J)V" } : Jvm.MethodName)) ∈ gw := lw_m 453 (by decide +kernel)
theorem tb454 : (Jvm.Cond.instanceMethod ({ cls := "StairGang$Tokens", name := "feedEight", desc := "(J)V" } : Jvm.MethodName)) ∈ gw := lw_m 454 (by decide +kernel)
theorem tb455 : (Jvm.Cond.selects "StairGang$Tokens" ({ cls := "StairGang$Tokens", name := "feedEight", desc := "(J)V" } : Jvm.MethodName) ({ cls := "StairGang$Tokens", name := "feedEight", desc := "(J)V" } : Jvm.MethodName)) ∈ gw := lw_m 455 (by decide +kernel)
theorem tb456 : (Jvm.Cond.code ({ cls := "StairGang$Tokens", name := "feedEight", desc := "(J)V" } : Jvm.MethodName) prog_9_method_6_code (6 : Nat) (Option.none : Option Jvm.ClassFile.FieldType)) ∈ gw := lw_m 456 (by decide +kernel)
theorem dX10_feed_0 : decode cX10_feed 0 = .ok (.aload_n 0, 1) := by decide +kernel
theorem dX10_feed_1 : decode cX10_feed 1 = .ok (.getfield 10, 3) := by decide +kernel
theorem dX10_feed_4 : decode cX10_feed 4 = .ok (.lload_n 1, 1) := by decide +kernel
theorem dX10_feed_5 : decode cX10_feed 5 = .ok (.invokevirtual 95, 3) := by decide +kernel
theorem dX10_feed_8 : decode cX10_feed 8 = .ok (.aload_n 0, 1) := by decide +kernel
theorem dX10_feed_9 : decode cX10_feed 9 = .ok (.getfield 10, 3) := by decide +kernel
theorem dX10_feed_12 : decode cX10_feed 12 = .ok (.lload_n 3, 1) := by decide +kernel
theorem dX10_feed_13 : decode cX10_feed 13 = .ok (.invokevirtual 95, 3) := by decide +kernel
theorem dX10_feed_16 : decode cX10_feed 16 = .ok (.aload_n 0, 1) := by decide +kernel
theorem dX10_feed_17 : decode cX10_feed 17 = .ok (.getfield 10, 3) := by decide +kernel
theorem dX10_feed_20 : decode cX10_feed 20 = .ok (.lload 5, 2) := by decide +kernel
theorem dX10_feed_22 : decode cX10_feed 22 = .ok (.invokevirtual 95, 3) := by decide +kernel
theorem dX10_feed_25 : decode cX10_feed 25 = .ok (.aload_n 0, 1) := by decide +kernel
theorem dX10_feed_26 : decode cX10_feed 26 = .ok (.getfield 10, 3) := by decide +kernel
theorem dX10_feed_29 : decode cX10_feed 29 = .ok (.getfield 99, 3) := by decide +kernel
theorem dX10_feed_32 : decode cX10_feed 32 = .ok (.ireturn, 1) := by decide +kernel
set_option maxHeartbeats 4000000 in
set_option maxRecDepth 100000 in
theorem x_feed (l : Launch) (g : va_G) (aC : Nat → ClassId) (aM : Nat → Nat) (h1 h2 h19 : Nat) (x3 x4 x5 x6 x7 x8 x9 x10 x11 x12 x13 x14 x15 x16 x17 x18 x20 x21 x22 x23 x24 x25 x26 : Value) (m_1 m_2 m_3 : Int64) : Ct l g aC aM yX10_feed cX10_feed 7 (some .int) 2 [.ref h1, .long m_1, .long m_2, .long m_3] [(h1, .inr (10, [.ref h2, x3, x4, x5, x6, x7, x8, x9, x10, x11, x12, x13, x14, x15, x16, x17])), (h2, .inr (7, [.int 0, x18, .ref h19, x20, x21, x22, x23, x24, x25, x26])), (h19, .inl (aC 2, 1000, .inl (fun _ => 0)))] (QI g (fun (r : Int32) (_ : Unit) => r = (nI (((0 + f8 m_1 8) + f8 m_2 8) + f8 m_3 8))) (fun (_ : Unit) => [])) 0 0 := by
  refine Ct.mk (by decide) (Nat.le_of_ble_eq_true rfl) ?_
  intro p e s m below meth c A ls hx hb hml hown hts hr hlk hnm hK hA hM hM2 hP hD hS hl
  have hown : s.vm.findClass RX10 = some m.cls := hown
  have F : Fx p s m _ c cX10_feed 7 RX10 g aC aM A := ⟨hx, hb, hml, hown, hts, hK, hA, hM, hM2⟩
  have hl : lv_has ls 7 [(0, .ref h1), (1, .long m_1), (3, .long m_2), (5, .long m_3)] := hl
  refine lv_aload_n hx hb dX10_feed_0 rfl (lv_at hl 0 rfl) ?_
  refine xget F hP 0 rfl rfl inX10 0 (by decide) tb400 rfl dX10_feed_1 ?_
  refine lv_lload_n hx hb dX10_feed_4 rfl (lv_at hl 1 rfl) ?_
  refine goV (wr := [(h1, .inr (10, [.ref h2, x3, x4, x5, x6, x7, x8, x9, x10, x11, x12, x13, x14, x15, x16, x17]))]) (runV (n := 1) (As := [.long m_1]) (rest := []) F hP hD hS (k_feed8 l g aC aM h2 h19 x18 x20 x21 x22 x23 x24 x25 x26 (fun _ => 0) m_1 0 (by have h1_ := f8_le m_1 8; have h2_ := f8_le m_2 8; omega)) [1, 2] (by decide) rfl 1 7 rfl rfl rfl tb456 tb453 tb454 tb455 tb2 ⟨by decide, by decide, by decide +kernel⟩ ⟨Nat.le_of_ble_eq_true rfl, Nat.le_of_ble_eq_true rfl⟩ rfl hl.1 rfl (Nat.le_of_ble_eq_true rfl) dX10_feed_5 ⟨Nat.le_of_ble_eq_true rfl, Nat.le_of_ble_eq_true rfl⟩) hP hD hS hA [1, 2] [0] rfl rfl (by decide) (by decide) (fun w4 H locs hw hP hD hS => ?_)
  obtain ⟨u1, rfl⟩ : ∃ z_, z_ = w4 := ⟨_, rfl⟩
  have hP : va_P g vwCl [(h1, .inr (10, [.ref h2, x3, x4, x5, x6, x7, x8, x9, x10, x11, x12, x13, x14, x15, x16, x17])), (h2, .inr (7, [.int (nI (0 + f8 m_1 8)), x18, .ref h19, x20, x21, x22, x23, x24, x25, x26])), (h19, .inl (aC 2, 1000, .inl u1))] H := hP
  have hD : va_D A [(h1, .inr (10, [.ref h2, x3, x4, x5, x6, x7, x8, x9, x10, x11, x12, x13, x14, x15, x16, x17])), (h2, .inr (7, [.int (nI (0 + f8 m_1 8)), x18, .ref h19, x20, x21, x22, x23, x24, x25, x26])), (h19, .inl (aC 2, 1000, .inl u1))] := hD
  refine lv_aload_n hx hb dX10_feed_8 rfl (lv_at hl 0 rfl) ?_
  refine xget F hP 0 rfl rfl inX10 0 (by decide) tb400 rfl dX10_feed_9 ?_
  refine lv_lload_n hx hb dX10_feed_12 rfl (lv_at hl 2 rfl) ?_
  refine goV (wr := [(h1, .inr (10, [.ref h2, x3, x4, x5, x6, x7, x8, x9, x10, x11, x12, x13, x14, x15, x16, x17]))]) (runV (n := 1) (As := [.long m_2]) (rest := []) F hP hD hS (k_feed8 l g aC aM h2 h19 x18 x20 x21 x22 x23 x24 x25 x26 u1 m_2 (0 + f8 m_1 8) (by have h1_ := f8_le m_1 8; have h2_ := f8_le m_2 8; omega)) [1, 2] (by decide) rfl 1 7 rfl rfl rfl tb456 tb453 tb454 tb455 tb2 ⟨by decide, by decide, by decide +kernel⟩ ⟨Nat.le_of_ble_eq_true rfl, Nat.le_of_ble_eq_true rfl⟩ rfl hl.1 rfl (Nat.le_of_ble_eq_true rfl) dX10_feed_13 ⟨Nat.le_of_ble_eq_true rfl, Nat.le_of_ble_eq_true rfl⟩) hP hD hS hA [1, 2] [0] rfl rfl (by decide) (by decide) (fun w8 H locs hw hP hD hS => ?_)
  obtain ⟨u5, rfl⟩ : ∃ z_, z_ = w8 := ⟨_, rfl⟩
  have hP : va_P g vwCl [(h1, .inr (10, [.ref h2, x3, x4, x5, x6, x7, x8, x9, x10, x11, x12, x13, x14, x15, x16, x17])), (h2, .inr (7, [.int (nI ((0 + f8 m_1 8) + f8 m_2 8)), x18, .ref h19, x20, x21, x22, x23, x24, x25, x26])), (h19, .inl (aC 2, 1000, .inl u5))] H := hP
  have hD : va_D A [(h1, .inr (10, [.ref h2, x3, x4, x5, x6, x7, x8, x9, x10, x11, x12, x13, x14, x15, x16, x17])), (h2, .inr (7, [.int (nI ((0 + f8 m_1 8) + f8 m_2 8)), x18, .ref h19, x20, x21, x22, x23, x24, x25, x26])), (h19, .inl (aC 2, 1000, .inl u5))] := hD
  refine lv_aload_n hx hb dX10_feed_16 rfl (lv_at hl 0 rfl) ?_
  refine xget F hP 0 rfl rfl inX10 0 (by decide) tb400 rfl dX10_feed_17 ?_
  refine lv_lload hx hb dX10_feed_20 (lv_at hl 3 rfl) ?_
  refine goV (wr := [(h1, .inr (10, [.ref h2, x3, x4, x5, x6, x7, x8, x9, x10, x11, x12, x13, x14, x15, x16, x17]))]) (runV (n := 1) (As := [.long m_3]) (rest := []) F hP hD hS (k_feed8 l g aC aM h2 h19 x18 x20 x21 x22 x23 x24 x25 x26 u5 m_3 ((0 + f8 m_1 8) + f8 m_2 8) (by have h1_ := f8_le m_1 8; have h2_ := f8_le m_2 8; omega)) [1, 2] (by decide) rfl 1 7 rfl rfl rfl tb456 tb453 tb454 tb455 tb2 ⟨by decide, by decide, by decide +kernel⟩ ⟨Nat.le_of_ble_eq_true rfl, Nat.le_of_ble_eq_true rfl⟩ rfl hl.1 rfl (Nat.le_of_ble_eq_true rfl) dX10_feed_22 ⟨Nat.le_of_ble_eq_true rfl, Nat.le_of_ble_eq_true rfl⟩) hP hD hS hA [1, 2] [0] rfl rfl (by decide) (by decide) (fun w12 H locs hw hP hD hS => ?_)
  obtain ⟨u9, rfl⟩ : ∃ z_, z_ = w12 := ⟨_, rfl⟩
  have hP : va_P g vwCl [(h1, .inr (10, [.ref h2, x3, x4, x5, x6, x7, x8, x9, x10, x11, x12, x13, x14, x15, x16, x17])), (h2, .inr (7, [.int (nI (((0 + f8 m_1 8) + f8 m_2 8) + f8 m_3 8)), x18, .ref h19, x20, x21, x22, x23, x24, x25, x26])), (h19, .inl (aC 2, 1000, .inl u9))] H := hP
  have hD : va_D A [(h1, .inr (10, [.ref h2, x3, x4, x5, x6, x7, x8, x9, x10, x11, x12, x13, x14, x15, x16, x17])), (h2, .inr (7, [.int (nI (((0 + f8 m_1 8) + f8 m_2 8) + f8 m_3 8)), x18, .ref h19, x20, x21, x22, x23, x24, x25, x26])), (h19, .inl (aC 2, 1000, .inl u9))] := hD
  refine lv_aload_n hx hb dX10_feed_25 rfl (lv_at hl 0 rfl) ?_
  refine xget F hP 0 rfl rfl inX10 0 (by decide) tb400 rfl dX10_feed_26 ?_
  refine xget F hP 1 rfl rfl inX7 0 (by decide) tb101 rfl dX10_feed_29 ?_
  have hP9 := hP.sub (ws' := []) [] rfl
  have hD9 := hD.sub (ws' := []) [] (by decide) rfl
  exact rI () hx hb hr hlk rfl hS rfl hP9 hD9 (Nat.le_of_ble_eq_true rfl) (Nat.le_of_ble_eq_true rfl) dX10_feed_32

theorem tb1414 : (Jvm.Cond.constantLong "StairGangModel" (184 : Nat) (255 : Int64)) ∈ gw := lw_m 1414 (by decide +kernel)
theorem dX11_feed_0 : decode cX11_feed 0 = .ok (.aload_n 0, 1) := by decide +kernel
theorem dX11_feed_1 : decode cX11_feed 1 = .ok (.iconst 0, 1) := by decide +kernel
theorem dX11_feed_2 : decode cX11_feed 2 = .ok (.putfield 180, 3) := by decide +kernel
theorem dX11_feed_5 : decode cX11_feed 5 = .ok (.iconst 0, 1) := by decide +kernel
theorem dX11_feed_6 : decode cX11_feed 6 = .ok (.istore 7, 2) := by decide +kernel
theorem dX11_feed_8 : decode cX11_feed 8 = .ok (.iload 7, 2) := by decide +kernel
theorem dX11_feed_10 : decode cX11_feed 10 = .ok (.bipush 24, 2) := by decide +kernel
theorem dX11_feed_12 : decode cX11_feed 12 = .ok (.if_icmp .ge 108, 3) := by decide +kernel
theorem dX11_feed_15 : decode cX11_feed 15 = .ok (.iload 7, 2) := by decide +kernel
theorem dX11_feed_17 : decode cX11_feed 17 = .ok (.bipush 8, 2) := by decide +kernel
theorem dX11_feed_19 : decode cX11_feed 19 = .ok (.if_icmp .ge 7, 3) := by decide +kernel
theorem dX11_feed_22 : decode cX11_feed 22 = .ok (.lload_n 1, 1) := by decide +kernel
theorem dX11_feed_23 : decode cX11_feed 23 = .ok (.goto 16, 3) := by decide +kernel
theorem dX11_feed_26 : decode cX11_feed 26 = .ok (.iload 7, 2) := by decide +kernel
theorem dX11_feed_28 : decode cX11_feed 28 = .ok (.bipush 16, 2) := by decide +kernel
theorem dX11_feed_30 : decode cX11_feed 30 = .ok (.if_icmp .ge 7, 3) := by decide +kernel
theorem dX11_feed_33 : decode cX11_feed 33 = .ok (.lload_n 3, 1) := by decide +kernel
theorem dX11_feed_34 : decode cX11_feed 34 = .ok (.goto 5, 3) := by decide +kernel
theorem dX11_feed_37 : decode cX11_feed 37 = .ok (.lload 5, 2) := by decide +kernel
theorem dX11_feed_39 : decode cX11_feed 39 = .ok (.lstore 8, 2) := by decide +kernel
theorem dX11_feed_41 : decode cX11_feed 41 = .ok (.lload 8, 2) := by decide +kernel
theorem dX11_feed_43 : decode cX11_feed 43 = .ok (.bipush 56, 2) := by decide +kernel
theorem dX11_feed_45 : decode cX11_feed 45 = .ok (.bipush 8, 2) := by decide +kernel
theorem dX11_feed_47 : decode cX11_feed 47 = .ok (.iload 7, 2) := by decide +kernel
theorem dX11_feed_49 : decode cX11_feed 49 = .ok (.bipush 7, 2) := by decide +kernel
theorem dX11_feed_51 : decode cX11_feed 51 = .ok (.iand, 1) := by decide +kernel
theorem dX11_feed_52 : decode cX11_feed 52 = .ok (.imul, 1) := by decide +kernel
theorem dX11_feed_53 : decode cX11_feed 53 = .ok (.isub, 1) := by decide +kernel
theorem dX11_feed_54 : decode cX11_feed 54 = .ok (.lushr, 1) := by decide +kernel
theorem dX11_feed_55 : decode cX11_feed 55 = .ok (.ldc2_w 184, 3) := by decide +kernel
theorem dX11_feed_58 : decode cX11_feed 58 = .ok (.land, 1) := by decide +kernel
theorem dX11_feed_59 : decode cX11_feed 59 = .ok (.l2i, 1) := by decide +kernel
theorem dX11_feed_60 : decode cX11_feed 60 = .ok (.istore 10, 2) := by decide +kernel
theorem dX11_feed_62 : decode cX11_feed 62 = .ok (.aload_n 0, 1) := by decide +kernel
theorem dX11_feed_63 : decode cX11_feed 63 = .ok (.getfield 186, 3) := by decide +kernel
theorem dX11_feed_66 : decode cX11_feed 66 = .ok (.sipush 1000, 3) := by decide +kernel
theorem dX11_feed_69 : decode cX11_feed 69 = .ok (.if_icmp .ge 45, 3) := by decide +kernel
theorem dX11_feed_72 : decode cX11_feed 72 = .ok (.iload 10, 2) := by decide +kernel
theorem dX11_feed_74 : decode cX11_feed 74 = .ok (.bipush 10, 2) := by decide +kernel
theorem dX11_feed_76 : decode cX11_feed 76 = .ok (.if_icmp .eq 17, 3) := by decide +kernel
theorem dX11_feed_79 : decode cX11_feed 79 = .ok (.iload 10, 2) := by decide +kernel
theorem dX11_feed_81 : decode cX11_feed 81 = .ok (.bipush 32, 2) := by decide +kernel
theorem dX11_feed_83 : decode cX11_feed 83 = .ok (.if_icmp .lt 31, 3) := by decide +kernel
theorem dX11_feed_86 : decode cX11_feed 86 = .ok (.iload 10, 2) := by decide +kernel
theorem dX11_feed_88 : decode cX11_feed 88 = .ok (.bipush 126, 2) := by decide +kernel
theorem dX11_feed_90 : decode cX11_feed 90 = .ok (.if_icmp .gt 24, 3) := by decide +kernel
theorem dX11_feed_93 : decode cX11_feed 93 = .ok (.aload_n 0, 1) := by decide +kernel
theorem dX11_feed_94 : decode cX11_feed 94 = .ok (.getfield 7, 3) := by decide +kernel
theorem dX11_feed_97 : decode cX11_feed 97 = .ok (.aload_n 0, 1) := by decide +kernel
theorem dX11_feed_98 : decode cX11_feed 98 = .ok (.getfield 186, 3) := by decide +kernel
theorem dX11_feed_101 : decode cX11_feed 101 = .ok (.iload 10, 2) := by decide +kernel
theorem dX11_feed_103 : decode cX11_feed 103 = .ok (.iastore, 1) := by decide +kernel
theorem dX11_feed_104 : decode cX11_feed 104 = .ok (.aload_n 0, 1) := by decide +kernel
theorem dX11_feed_105 : decode cX11_feed 105 = .ok (.dup, 1) := by decide +kernel
theorem dX11_feed_106 : decode cX11_feed 106 = .ok (.getfield 186, 3) := by decide +kernel
theorem dX11_feed_109 : decode cX11_feed 109 = .ok (.iconst 1, 1) := by decide +kernel
theorem dX11_feed_110 : decode cX11_feed 110 = .ok (.iadd, 1) := by decide +kernel
theorem dX11_feed_111 : decode cX11_feed 111 = .ok (.putfield 186, 3) := by decide +kernel
theorem dX11_feed_114 : decode cX11_feed 114 = .ok (.iinc 7 1, 3) := by decide +kernel
theorem dX11_feed_117 : decode cX11_feed 117 = .ok (.goto (-109), 3) := by decide +kernel
theorem dX11_feed_120 : decode cX11_feed 120 = .ok (.aload_n 0, 1) := by decide +kernel
theorem dX11_feed_121 : decode cX11_feed 121 = .ok (.getfield 186, 3) := by decide +kernel
theorem dX11_feed_124 : decode cX11_feed 124 = .ok (.ireturn, 1) := by decide +kernel
set_option maxHeartbeats 4000000 in
set_option maxRecDepth 100000 in
theorem m_feed (l : Launch) (g : va_G) (aC : Nat → ClassId) (aM : Nat → Nat) (h1 h2 : Nat) (x3 x4 x5 x6 x7 x8 x9 x10 x11 x12 x13 x14 x15 x16 x17 x18 x19 x20 x21 x22 x23 x24 x25 x26 x27 x28 x29 x30 x31 x32 x33 x34 x35 x36 x37 x38 x39 x40 x41 x42 x43 x44 x45 x46 x47 x48 x49 x50 x51 x52 x53 x54 x55 x56 x57 x58 x59 x60 x61 x62 x63 x64 x65 x66 x67 x68 x69 x70 x71 x72 x73 : Value) (m_1 m_2 m_3 : Int64) : Ct l g aC aM yX11_feed cX11_feed 11 (some .int) 1 [.ref h1, .long m_1, .long m_2, .long m_3] [(h1, .inr (11, [.int 0, .int 0, .ref h2, x3, x4, x5, x6, x7, x8, x9, x10, x11, x12, x13, x14, x15, x16, x17, x18, x19, x20, x21, x22, x23, x24, x25, x26, x27, x28, x29, x30, x31, x32, x33, x34, x35, x36, x37, x38, x39, x40, x41, x42, x43, x44, x45, x46, x47, x48, x49, x50, x51, x52, x53, x54, x55, x56, x57, x58, x59, x60, x61, x62, x63, x64, x65, x66, x67, x68, x69, x70, x71, x72, x73])), (h2, .inl (aC 0, 1000, .inl (fun _ => 0)))] (QI g (fun (r : Int32) (_ : Unit) => r = (nI (((0 + f8 m_1 8) + f8 m_2 8) + f8 m_3 8))) (fun (_ : Unit) => [])) 0 0 := by
  refine Ct.mk (by decide) (Nat.le_of_ble_eq_true rfl) ?_
  intro p e s m below meth c A ls hx hb hml hown hts hr hlk hnm hK hA hM hM2 hP hD hS hl
  have hown : s.vm.findClass RX11 = some m.cls := hown
  have F : Fx p s m _ c cX11_feed 11 RX11 g aC aM A := ⟨hx, hb, hml, hown, hts, hK, hA, hM, hM2⟩
  have hl : lv_has ls 11 [(0, .ref h1), (1, .long m_1), (3, .long m_2), (5, .long m_3)] := hl
  refine lv_aload_n hx hb dX11_feed_0 rfl (lv_at hl 0 rfl) ?_
  refine lv_iconst (v := 0) hx hb dX11_feed_1 (by decide) ?_
  refine xput F hP hD hS 0 rfl rfl inX11 tyX11_ok nmX11 0 (by decide) tb1182 rfl rfl rfl (Nat.le_of_ble_eq_true rfl) dX11_feed_2 (fun H locs hP hD hS => ?_)
  have hP : va_P g vwCl [(h1, .inr (11, [.int 0, .int 0, .ref h2, x3, x4, x5, x6, x7, x8, x9, x10, x11, x12, x13, x14, x15, x16, x17, x18, x19, x20, x21, x22, x23, x24, x25, x26, x27, x28, x29, x30, x31, x32, x33, x34, x35, x36, x37, x38, x39, x40, x41, x42, x43, x44, x45, x46, x47, x48, x49, x50, x51, x52, x53, x54, x55, x56, x57, x58, x59, x60, x61, x62, x63, x64, x65, x66, x67, x68, x69, x70, x71, x72, x73])), (h2, .inl (aC 0, 1000, .inl (fun _ => 0)))] H := hP
  have hD : va_D A [(h1, .inr (11, [.int 0, .int 0, .ref h2, x3, x4, x5, x6, x7, x8, x9, x10, x11, x12, x13, x14, x15, x16, x17, x18, x19, x20, x21, x22, x23, x24, x25, x26, x27, x28, x29, x30, x31, x32, x33, x34, x35, x36, x37, x38, x39, x40, x41, x42, x43, x44, x45, x46, x47, x48, x49, x50, x51, x52, x53, x54, x55, x56, x57, x58, x59, x60, x61, x62, x63, x64, x65, x66, x67, x68, x69, x70, x71, x72, x73])), (h2, .inl (aC 0, 1000, .inl (fun _ => 0)))] := hD
  refine lv_iconst (v := 0) hx hb dX11_feed_5 (by decide) ?_
  refine lv_istore (lv' := [(7, .int 0), (0, .ref h1), (1, .long m_1), (3, .long m_2), (5, .long m_3)]) hx hb dX11_feed_6 hl (by decide) rfl (fun ls hl => ?_)
  have hc24 : ∀ (n : Nat) (f : Nat → Int32) (H : Heap) (locs : List Loc) (ls : Array Slot), n = ((0 + f8 m_1 8) + f8 m_2 8) + f8 m_3 8 → n ≤ 24 → va_P g vwCl [(h1, .inr (11, [.int 0, .int (nI n), .ref h2, x3, x4, x5, x6, x7, x8, x9, x10, x11, x12, x13, x14, x15, x16, x17, x18, x19, x20, x21, x22, x23, x24, x25, x26, x27, x28, x29, x30, x31, x32, x33, x34, x35, x36, x37, x38, x39, x40, x41, x42, x43, x44, x45, x46, x47, x48, x49, x50, x51, x52, x53, x54, x55, x56, x57, x58, x59, x60, x61, x62, x63, x64, x65, x66, x67, x68, x69, x70, x71, x72, x73])), (h2, .inl (aC 0, 1000, .inl f))] H → va_D A [(h1, .inr (11, [.int 0, .int (nI n), .ref h2, x3, x4, x5, x6, x7, x8, x9, x10, x11, x12, x13, x14, x15, x16, x17, x18, x19, x20, x21, x22, x23, x24, x25, x26, x27, x28, x29, x30, x31, x32, x33, x34, x35, x36, x37, x38, x39, x40, x41, x42, x43, x44, x45, x46, x47, x48, x49, x50, x51, x52, x53, x54, x55, x56, x57, x58, x59, x60, x61, x62, x63, x64, x65, x66, x67, x68, x69, x70, x71, x72, x73])), (h2, .inl (aC 0, 1000, .inl f))] → va_S A s.heap H locs → lv_has ls 11 [(7, .int 24), (0, .ref h1), (1, .long m_1), (3, .long m_2), (5, .long m_3)] → W p l e (rmL 1 0 0) s m [.ref h1, .long m_1, .long m_2, .long m_3].toArray below meth c H locs 0 0 (MQ below (QI g (fun (r : Int32) (_ : Unit) => r = (nI (((0 + f8 m_1 8) + f8 m_2 8) + f8 m_3 8))) (fun (_ : Unit) => []) A) [.ref h1, .long m_1, .long m_2, .long m_3].toArray s 0 0 A) (F0 m 8 ls []) := by
    intro n f H locs ls hn hb_ hP hD hS hl
    subst hn
    refine lv_iload hx hb dX11_feed_8 (lv_at hl 0 rfl) ?_
    refine lv_bipush (v := 24) hx hb dX11_feed_10 (by decide) ?_
    refine lv_icmp_ge (tgt := 120) hx hb dX11_feed_12 (by decide) (fun _ => ?_) (fun c_ => absurd (by decide +kernel) c_)
    refine lv_aload_n hx hb dX11_feed_120 rfl (lv_at hl 1 rfl) ?_
    refine xget F hP 0 rfl rfl inX11 1 (by decide) tb1183 rfl dX11_feed_121 ?_
    have hP9 := hP.sub (ws' := []) [] rfl
    have hD9 := hD.sub (ws' := []) [] (by decide) rfl
    exact rI () hx hb hr hlk rfl hS rfl hP9 hD9 (Nat.le_of_ble_eq_true rfl) (Nat.le_of_ble_eq_true rfl) dX11_feed_124
  have hc23 : ∀ (n : Nat) (f : Nat → Int32) (H : Heap) (locs : List Loc) (ls : Array Slot), n = ((0 + f8 m_1 8) + f8 m_2 8) + f8 m_3 7 → n ≤ 23 → va_P g vwCl [(h1, .inr (11, [.int 0, .int (nI n), .ref h2, x3, x4, x5, x6, x7, x8, x9, x10, x11, x12, x13, x14, x15, x16, x17, x18, x19, x20, x21, x22, x23, x24, x25, x26, x27, x28, x29, x30, x31, x32, x33, x34, x35, x36, x37, x38, x39, x40, x41, x42, x43, x44, x45, x46, x47, x48, x49, x50, x51, x52, x53, x54, x55, x56, x57, x58, x59, x60, x61, x62, x63, x64, x65, x66, x67, x68, x69, x70, x71, x72, x73])), (h2, .inl (aC 0, 1000, .inl f))] H → va_D A [(h1, .inr (11, [.int 0, .int (nI n), .ref h2, x3, x4, x5, x6, x7, x8, x9, x10, x11, x12, x13, x14, x15, x16, x17, x18, x19, x20, x21, x22, x23, x24, x25, x26, x27, x28, x29, x30, x31, x32, x33, x34, x35, x36, x37, x38, x39, x40, x41, x42, x43, x44, x45, x46, x47, x48, x49, x50, x51, x52, x53, x54, x55, x56, x57, x58, x59, x60, x61, x62, x63, x64, x65, x66, x67, x68, x69, x70, x71, x72, x73])), (h2, .inl (aC 0, 1000, .inl f))] → va_S A s.heap H locs → lv_has ls 11 [(7, .int 23), (0, .ref h1), (1, .long m_1), (3, .long m_2), (5, .long m_3)] → W p l e (rmL 1 0 0) s m [.ref h1, .long m_1, .long m_2, .long m_3].toArray below meth c H locs 0 0 (MQ below (QI g (fun (r : Int32) (_ : Unit) => r = (nI (((0 + f8 m_1 8) + f8 m_2 8) + f8 m_3 8))) (fun (_ : Unit) => []) A) [.ref h1, .long m_1, .long m_2, .long m_3].toArray s 0 0 A) (F0 m 8 ls []) := by
    intro n f H locs ls hn hb_ hP hD hS hl
    refine lv_iload hx hb dX11_feed_8 (lv_at hl 0 rfl) ?_
    refine lv_bipush (v := 24) hx hb dX11_feed_10 (by decide) ?_
    refine lv_icmp_ge (tgt := 120) hx hb dX11_feed_12 (by decide) (fun c_ => absurd c_ (by decide +kernel)) (fun _ => ?_)
    refine lv_iload hx hb dX11_feed_15 (lv_at hl 0 rfl) ?_
    refine lv_bipush (v := 8) hx hb dX11_feed_17 (by decide) ?_
    refine lv_icmp_ge (tgt := 26) hx hb dX11_feed_19 (by decide) (fun _ => ?_) (fun c_ => absurd (by decide +kernel) c_)
    refine lv_iload hx hb dX11_feed_26 (lv_at hl 0 rfl) ?_
    refine lv_bipush (v := 16) hx hb dX11_feed_28 (by decide) ?_
    refine lv_icmp_ge (tgt := 37) hx hb dX11_feed_30 (by decide) (fun _ => ?_) (fun c_ => absurd (by decide +kernel) c_)
    refine lv_lload hx hb dX11_feed_37 (lv_at hl 4 rfl) ?_
    refine lv_lstore (lv' := [(8, .long m_3), (7, .int 23), (0, .ref h1), (1, .long m_1), (3, .long m_2), (5, .long m_3)]) hx hb dX11_feed_39 hl (by decide) rfl (fun ls hl => ?_)
    refine lv_lload hx hb dX11_feed_41 (lv_at hl 0 rfl) ?_
    refine lv_bipush (v := 56) hx hb dX11_feed_43 (by decide) ?_
    refine lv_bipush (v := 8) hx hb dX11_feed_45 (by decide) ?_
    refine lv_iload hx hb dX11_feed_47 (lv_at hl 1 rfl) ?_
    refine lv_bipush (v := 7) hx hb dX11_feed_49 (by decide) ?_
    refine lv_iand hx hb dX11_feed_51 ?_
    refine relit (v := 7) (by decide +kernel) ?_
    refine lv_imul hx hb dX11_feed_52 ?_
    refine relit (v := 56) (by decide +kernel) ?_
    refine lv_isub hx hb dX11_feed_53 ?_
    refine relit (v := 0) (by decide +kernel) ?_
    refine lv_lushr (v := ((m_3.toUInt64 >>> ((0 : Int32).toInt64.toUInt64 &&& Int64.toUInt64 63)).toInt64)) hx hb dX11_feed_54 rfl ?_
    refine lv_ldc2 (v := 255) hx hb hown (hts _ tb1414) dX11_feed_55 ?_
    refine lv_land hx hb dX11_feed_58 ?_
    refine lv_l2i (v := ((((m_3.toUInt64 >>> ((0 : Int32).toInt64.toUInt64 &&& Int64.toUInt64 63)).toInt64) &&& 255).toInt32)) hx hb dX11_feed_59 rfl ?_
    obtain ⟨Sv, eSv⟩ : ∃ z : Int32, z = ((((m_3.toUInt64 >>> ((0 : Int32).toInt64.toUInt64 &&& Int64.toUInt64 63)).toInt64) &&& 255).toInt32) := ⟨_, rfl⟩
    refine relit (v := Sv) eSv.symm ?_
    refine lv_istore (lv' := [(10, .int Sv), (8, .long m_3), (7, .int 23), (0, .ref h1), (1, .long m_1), (3, .long m_2), (5, .long m_3)]) hx hb dX11_feed_60 hl (by decide) rfl (fun ls hl => ?_)
    refine lv_aload_n hx hb dX11_feed_62 rfl (lv_at hl 3 rfl) ?_
    refine xget F hP 0 rfl rfl inX11 1 (by decide) tb1183 rfl dX11_feed_63 ?_
    refine lv_sipush (v := 1000) hx hb dX11_feed_66 (by decide) ?_
    refine lv_icmp_ge (tgt := 114) hx hb dX11_feed_69 (by decide) (fun c_ => absurd c_ (show ¬ (nI 1000 ≤ nI n) by rw [nI_leI (by omega) (by omega)]; omega)) (fun _ => ?_)
    refine lv_iload hx hb dX11_feed_72 (lv_at hl 0 rfl) ?_
    refine lv_bipush (v := 10) hx hb dX11_feed_74 (by decide) ?_
    refine lv_icmp_eq (tgt := 93) hx hb dX11_feed_76 (by decide) (fun c5 => ?_) (fun c5 => ?_)
    · refine lv_aload_n hx hb dX11_feed_93 rfl (lv_at hl 3 rfl) ?_
      refine xget F hP 0 rfl rfl inX11 2 (by decide) tb1184 rfl dX11_feed_94 ?_
      refine lv_aload_n hx hb dX11_feed_97 rfl (lv_at hl 3 rfl) ?_
      refine xget F hP 0 rfl rfl inX11 1 (by decide) tb1183 rfl dX11_feed_98 ?_
      refine lv_iload hx hb dX11_feed_101 (lv_at hl 0 rfl) ?_
      refine xistE F hP hD hS 1 rfl n (nI_pos (by omega)) (nI_clamp (by omega)) (by omega) dX11_feed_103 (fun f_6 H locs hP hD hS => ?_)
      have hP : va_P g vwCl [(h1, .inr (11, [.int 0, .int (nI n), .ref h2, x3, x4, x5, x6, x7, x8, x9, x10, x11, x12, x13, x14, x15, x16, x17, x18, x19, x20, x21, x22, x23, x24, x25, x26, x27, x28, x29, x30, x31, x32, x33, x34, x35, x36, x37, x38, x39, x40, x41, x42, x43, x44, x45, x46, x47, x48, x49, x50, x51, x52, x53, x54, x55, x56, x57, x58, x59, x60, x61, x62, x63, x64, x65, x66, x67, x68, x69, x70, x71, x72, x73])), (h2, .inl (aC 0, 1000, .inl f_6))] H := hP
      have hD : va_D A [(h1, .inr (11, [.int 0, .int (nI n), .ref h2, x3, x4, x5, x6, x7, x8, x9, x10, x11, x12, x13, x14, x15, x16, x17, x18, x19, x20, x21, x22, x23, x24, x25, x26, x27, x28, x29, x30, x31, x32, x33, x34, x35, x36, x37, x38, x39, x40, x41, x42, x43, x44, x45, x46, x47, x48, x49, x50, x51, x52, x53, x54, x55, x56, x57, x58, x59, x60, x61, x62, x63, x64, x65, x66, x67, x68, x69, x70, x71, x72, x73])), (h2, .inl (aC 0, 1000, .inl f_6))] := hD
      refine lv_aload_n hx hb dX11_feed_104 rfl (lv_at hl 3 rfl) ?_
      refine lv_dup hx hb dX11_feed_105 rfl ?_
      refine xget F hP 0 rfl rfl inX11 1 (by decide) tb1183 rfl dX11_feed_106 ?_
      refine lv_iconst (v := 1) hx hb dX11_feed_109 (by decide) ?_
      refine lv_iadd hx hb dX11_feed_110 ?_
      refine relit (v := (nI (n + 1))) (nadd (a := n) (b := 1) (by omega)) ?_
      refine xput F hP hD hS 0 rfl rfl inX11 tyX11_ok nmX11 1 (by decide) tb1183 rfl rfl rfl (Nat.le_of_ble_eq_true rfl) dX11_feed_111 (fun H locs hP hD hS => ?_)
      have hP : va_P g vwCl [(h1, .inr (11, [.int 0, .int (nI (n + 1)), .ref h2, x3, x4, x5, x6, x7, x8, x9, x10, x11, x12, x13, x14, x15, x16, x17, x18, x19, x20, x21, x22, x23, x24, x25, x26, x27, x28, x29, x30, x31, x32, x33, x34, x35, x36, x37, x38, x39, x40, x41, x42, x43, x44, x45, x46, x47, x48, x49, x50, x51, x52, x53, x54, x55, x56, x57, x58, x59, x60, x61, x62, x63, x64, x65, x66, x67, x68, x69, x70, x71, x72, x73])), (h2, .inl (aC 0, 1000, .inl f_6))] H := hP
      have hD : va_D A [(h1, .inr (11, [.int 0, .int (nI (n + 1)), .ref h2, x3, x4, x5, x6, x7, x8, x9, x10, x11, x12, x13, x14, x15, x16, x17, x18, x19, x20, x21, x22, x23, x24, x25, x26, x27, x28, x29, x30, x31, x32, x33, x34, x35, x36, x37, x38, x39, x40, x41, x42, x43, x44, x45, x46, x47, x48, x49, x50, x51, x52, x53, x54, x55, x56, x57, x58, x59, x60, x61, x62, x63, x64, x65, x66, x67, x68, x69, x70, x71, x72, x73])), (h2, .inl (aC 0, 1000, .inl f_6))] := hD
      refine lv_iinc (v := 24) (lv' := [(7, .int 24), (10, .int Sv), (8, .long m_3), (0, .ref h1), (1, .long m_1), (3, .long m_2), (5, .long m_3)]) hx hb dX11_feed_114 hl (k := 2) rfl (by decide +kernel) (by decide) rfl (fun ls hl => ?_)
      refine lv_goto (tgt := 8) hx hb dX11_feed_117 (by decide) ?_
      exact hc24 (n + 1) f_6 _ _ _ (f8_up 7 hn eSv (okb_eq c5)) (by omega) (hP.sub [0, 1] rfl) (hD.sub [0, 1] (by decide) rfl) hS (lv_sub hl [0, 3, 4, 5, 6] rfl)
    · refine lv_iload hx hb dX11_feed_79 (lv_at hl 0 rfl) ?_
      refine lv_bipush (v := 32) hx hb dX11_feed_81 (by decide) ?_
      refine lv_icmp_lt (tgt := 114) hx hb dX11_feed_83 (by decide) (fun c7 => ?_) (fun c7 => ?_)
      · refine lv_iinc (v := 24) (lv' := [(7, .int 24), (10, .int Sv), (8, .long m_3), (0, .ref h1), (1, .long m_1), (3, .long m_2), (5, .long m_3)]) hx hb dX11_feed_114 hl (k := 2) rfl (by decide +kernel) (by decide) rfl (fun ls hl => ?_)
        refine lv_goto (tgt := 8) hx hb dX11_feed_117 (by decide) ?_
        exact hc24 (n) f _ _ _ (f8_st 7 hn eSv (okb_lo c5 c7)) (by omega) (hP.sub [0, 1] rfl) (hD.sub [0, 1] (by decide) rfl) hS (lv_sub hl [0, 3, 4, 5, 6] rfl)
      · refine lv_iload hx hb dX11_feed_86 (lv_at hl 0 rfl) ?_
        refine lv_bipush (v := 126) hx hb dX11_feed_88 (by decide) ?_
        refine lv_icmp_gt (tgt := 114) hx hb dX11_feed_90 (by decide) (fun c8 => ?_) (fun c8 => ?_)
        · refine lv_iinc (v := 24) (lv' := [(7, .int 24), (10, .int Sv), (8, .long m_3), (0, .ref h1), (1, .long m_1), (3, .long m_2), (5, .long m_3)]) hx hb dX11_feed_114 hl (k := 2) rfl (by decide +kernel) (by decide) rfl (fun ls hl => ?_)
          refine lv_goto (tgt := 8) hx hb dX11_feed_117 (by decide) ?_
          exact hc24 (n) f _ _ _ (f8_st 7 hn eSv (okb_hi c5 c8)) (by omega) (hP.sub [0, 1] rfl) (hD.sub [0, 1] (by decide) rfl) hS (lv_sub hl [0, 3, 4, 5, 6] rfl)
        · refine lv_aload_n hx hb dX11_feed_93 rfl (lv_at hl 3 rfl) ?_
          refine xget F hP 0 rfl rfl inX11 2 (by decide) tb1184 rfl dX11_feed_94 ?_
          refine lv_aload_n hx hb dX11_feed_97 rfl (lv_at hl 3 rfl) ?_
          refine xget F hP 0 rfl rfl inX11 1 (by decide) tb1183 rfl dX11_feed_98 ?_
          refine lv_iload hx hb dX11_feed_101 (lv_at hl 0 rfl) ?_
          refine xistE F hP hD hS 1 rfl n (nI_pos (by omega)) (nI_clamp (by omega)) (by omega) dX11_feed_103 (fun f_9 H locs hP hD hS => ?_)
          have hP : va_P g vwCl [(h1, .inr (11, [.int 0, .int (nI n), .ref h2, x3, x4, x5, x6, x7, x8, x9, x10, x11, x12, x13, x14, x15, x16, x17, x18, x19, x20, x21, x22, x23, x24, x25, x26, x27, x28, x29, x30, x31, x32, x33, x34, x35, x36, x37, x38, x39, x40, x41, x42, x43, x44, x45, x46, x47, x48, x49, x50, x51, x52, x53, x54, x55, x56, x57, x58, x59, x60, x61, x62, x63, x64, x65, x66, x67, x68, x69, x70, x71, x72, x73])), (h2, .inl (aC 0, 1000, .inl f_9))] H := hP
          have hD : va_D A [(h1, .inr (11, [.int 0, .int (nI n), .ref h2, x3, x4, x5, x6, x7, x8, x9, x10, x11, x12, x13, x14, x15, x16, x17, x18, x19, x20, x21, x22, x23, x24, x25, x26, x27, x28, x29, x30, x31, x32, x33, x34, x35, x36, x37, x38, x39, x40, x41, x42, x43, x44, x45, x46, x47, x48, x49, x50, x51, x52, x53, x54, x55, x56, x57, x58, x59, x60, x61, x62, x63, x64, x65, x66, x67, x68, x69, x70, x71, x72, x73])), (h2, .inl (aC 0, 1000, .inl f_9))] := hD
          refine lv_aload_n hx hb dX11_feed_104 rfl (lv_at hl 3 rfl) ?_
          refine lv_dup hx hb dX11_feed_105 rfl ?_
          refine xget F hP 0 rfl rfl inX11 1 (by decide) tb1183 rfl dX11_feed_106 ?_
          refine lv_iconst (v := 1) hx hb dX11_feed_109 (by decide) ?_
          refine lv_iadd hx hb dX11_feed_110 ?_
          refine relit (v := (nI (n + 1))) (nadd (a := n) (b := 1) (by omega)) ?_
          refine xput F hP hD hS 0 rfl rfl inX11 tyX11_ok nmX11 1 (by decide) tb1183 rfl rfl rfl (Nat.le_of_ble_eq_true rfl) dX11_feed_111 (fun H locs hP hD hS => ?_)
          have hP : va_P g vwCl [(h1, .inr (11, [.int 0, .int (nI (n + 1)), .ref h2, x3, x4, x5, x6, x7, x8, x9, x10, x11, x12, x13, x14, x15, x16, x17, x18, x19, x20, x21, x22, x23, x24, x25, x26, x27, x28, x29, x30, x31, x32, x33, x34, x35, x36, x37, x38, x39, x40, x41, x42, x43, x44, x45, x46, x47, x48, x49, x50, x51, x52, x53, x54, x55, x56, x57, x58, x59, x60, x61, x62, x63, x64, x65, x66, x67, x68, x69, x70, x71, x72, x73])), (h2, .inl (aC 0, 1000, .inl f_9))] H := hP
          have hD : va_D A [(h1, .inr (11, [.int 0, .int (nI (n + 1)), .ref h2, x3, x4, x5, x6, x7, x8, x9, x10, x11, x12, x13, x14, x15, x16, x17, x18, x19, x20, x21, x22, x23, x24, x25, x26, x27, x28, x29, x30, x31, x32, x33, x34, x35, x36, x37, x38, x39, x40, x41, x42, x43, x44, x45, x46, x47, x48, x49, x50, x51, x52, x53, x54, x55, x56, x57, x58, x59, x60, x61, x62, x63, x64, x65, x66, x67, x68, x69, x70, x71, x72, x73])), (h2, .inl (aC 0, 1000, .inl f_9))] := hD
          refine lv_iinc (v := 24) (lv' := [(7, .int 24), (10, .int Sv), (8, .long m_3), (0, .ref h1), (1, .long m_1), (3, .long m_2), (5, .long m_3)]) hx hb dX11_feed_114 hl (k := 2) rfl (by decide +kernel) (by decide) rfl (fun ls hl => ?_)
          refine lv_goto (tgt := 8) hx hb dX11_feed_117 (by decide) ?_
          exact hc24 (n + 1) f_9 _ _ _ (f8_up 7 hn eSv (okb_in c7 c8)) (by omega) (hP.sub [0, 1] rfl) (hD.sub [0, 1] (by decide) rfl) hS (lv_sub hl [0, 3, 4, 5, 6] rfl)
  have hc22 : ∀ (n : Nat) (f : Nat → Int32) (H : Heap) (locs : List Loc) (ls : Array Slot), n = ((0 + f8 m_1 8) + f8 m_2 8) + f8 m_3 6 → n ≤ 22 → va_P g vwCl [(h1, .inr (11, [.int 0, .int (nI n), .ref h2, x3, x4, x5, x6, x7, x8, x9, x10, x11, x12, x13, x14, x15, x16, x17, x18, x19, x20, x21, x22, x23, x24, x25, x26, x27, x28, x29, x30, x31, x32, x33, x34, x35, x36, x37, x38, x39, x40, x41, x42, x43, x44, x45, x46, x47, x48, x49, x50, x51, x52, x53, x54, x55, x56, x57, x58, x59, x60, x61, x62, x63, x64, x65, x66, x67, x68, x69, x70, x71, x72, x73])), (h2, .inl (aC 0, 1000, .inl f))] H → va_D A [(h1, .inr (11, [.int 0, .int (nI n), .ref h2, x3, x4, x5, x6, x7, x8, x9, x10, x11, x12, x13, x14, x15, x16, x17, x18, x19, x20, x21, x22, x23, x24, x25, x26, x27, x28, x29, x30, x31, x32, x33, x34, x35, x36, x37, x38, x39, x40, x41, x42, x43, x44, x45, x46, x47, x48, x49, x50, x51, x52, x53, x54, x55, x56, x57, x58, x59, x60, x61, x62, x63, x64, x65, x66, x67, x68, x69, x70, x71, x72, x73])), (h2, .inl (aC 0, 1000, .inl f))] → va_S A s.heap H locs → lv_has ls 11 [(7, .int 22), (0, .ref h1), (1, .long m_1), (3, .long m_2), (5, .long m_3)] → W p l e (rmL 1 0 0) s m [.ref h1, .long m_1, .long m_2, .long m_3].toArray below meth c H locs 0 0 (MQ below (QI g (fun (r : Int32) (_ : Unit) => r = (nI (((0 + f8 m_1 8) + f8 m_2 8) + f8 m_3 8))) (fun (_ : Unit) => []) A) [.ref h1, .long m_1, .long m_2, .long m_3].toArray s 0 0 A) (F0 m 8 ls []) := by
    intro n f H locs ls hn hb_ hP hD hS hl
    refine lv_iload hx hb dX11_feed_8 (lv_at hl 0 rfl) ?_
    refine lv_bipush (v := 24) hx hb dX11_feed_10 (by decide) ?_
    refine lv_icmp_ge (tgt := 120) hx hb dX11_feed_12 (by decide) (fun c_ => absurd c_ (by decide +kernel)) (fun _ => ?_)
    refine lv_iload hx hb dX11_feed_15 (lv_at hl 0 rfl) ?_
    refine lv_bipush (v := 8) hx hb dX11_feed_17 (by decide) ?_
    refine lv_icmp_ge (tgt := 26) hx hb dX11_feed_19 (by decide) (fun _ => ?_) (fun c_ => absurd (by decide +kernel) c_)
    refine lv_iload hx hb dX11_feed_26 (lv_at hl 0 rfl) ?_
    refine lv_bipush (v := 16) hx hb dX11_feed_28 (by decide) ?_
    refine lv_icmp_ge (tgt := 37) hx hb dX11_feed_30 (by decide) (fun _ => ?_) (fun c_ => absurd (by decide +kernel) c_)
    refine lv_lload hx hb dX11_feed_37 (lv_at hl 4 rfl) ?_
    refine lv_lstore (lv' := [(8, .long m_3), (7, .int 22), (0, .ref h1), (1, .long m_1), (3, .long m_2), (5, .long m_3)]) hx hb dX11_feed_39 hl (by decide) rfl (fun ls hl => ?_)
    refine lv_lload hx hb dX11_feed_41 (lv_at hl 0 rfl) ?_
    refine lv_bipush (v := 56) hx hb dX11_feed_43 (by decide) ?_
    refine lv_bipush (v := 8) hx hb dX11_feed_45 (by decide) ?_
    refine lv_iload hx hb dX11_feed_47 (lv_at hl 1 rfl) ?_
    refine lv_bipush (v := 7) hx hb dX11_feed_49 (by decide) ?_
    refine lv_iand hx hb dX11_feed_51 ?_
    refine relit (v := 6) (by decide +kernel) ?_
    refine lv_imul hx hb dX11_feed_52 ?_
    refine relit (v := 48) (by decide +kernel) ?_
    refine lv_isub hx hb dX11_feed_53 ?_
    refine relit (v := 8) (by decide +kernel) ?_
    refine lv_lushr (v := ((m_3.toUInt64 >>> ((8 : Int32).toInt64.toUInt64 &&& Int64.toUInt64 63)).toInt64)) hx hb dX11_feed_54 rfl ?_
    refine lv_ldc2 (v := 255) hx hb hown (hts _ tb1414) dX11_feed_55 ?_
    refine lv_land hx hb dX11_feed_58 ?_
    refine lv_l2i (v := ((((m_3.toUInt64 >>> ((8 : Int32).toInt64.toUInt64 &&& Int64.toUInt64 63)).toInt64) &&& 255).toInt32)) hx hb dX11_feed_59 rfl ?_
    obtain ⟨Sv, eSv⟩ : ∃ z : Int32, z = ((((m_3.toUInt64 >>> ((8 : Int32).toInt64.toUInt64 &&& Int64.toUInt64 63)).toInt64) &&& 255).toInt32) := ⟨_, rfl⟩
    refine relit (v := Sv) eSv.symm ?_
    refine lv_istore (lv' := [(10, .int Sv), (8, .long m_3), (7, .int 22), (0, .ref h1), (1, .long m_1), (3, .long m_2), (5, .long m_3)]) hx hb dX11_feed_60 hl (by decide) rfl (fun ls hl => ?_)
    refine lv_aload_n hx hb dX11_feed_62 rfl (lv_at hl 3 rfl) ?_
    refine xget F hP 0 rfl rfl inX11 1 (by decide) tb1183 rfl dX11_feed_63 ?_
    refine lv_sipush (v := 1000) hx hb dX11_feed_66 (by decide) ?_
    refine lv_icmp_ge (tgt := 114) hx hb dX11_feed_69 (by decide) (fun c_ => absurd c_ (show ¬ (nI 1000 ≤ nI n) by rw [nI_leI (by omega) (by omega)]; omega)) (fun _ => ?_)
    refine lv_iload hx hb dX11_feed_72 (lv_at hl 0 rfl) ?_
    refine lv_bipush (v := 10) hx hb dX11_feed_74 (by decide) ?_
    refine lv_icmp_eq (tgt := 93) hx hb dX11_feed_76 (by decide) (fun c13 => ?_) (fun c13 => ?_)
    · refine lv_aload_n hx hb dX11_feed_93 rfl (lv_at hl 3 rfl) ?_
      refine xget F hP 0 rfl rfl inX11 2 (by decide) tb1184 rfl dX11_feed_94 ?_
      refine lv_aload_n hx hb dX11_feed_97 rfl (lv_at hl 3 rfl) ?_
      refine xget F hP 0 rfl rfl inX11 1 (by decide) tb1183 rfl dX11_feed_98 ?_
      refine lv_iload hx hb dX11_feed_101 (lv_at hl 0 rfl) ?_
      refine xistE F hP hD hS 1 rfl n (nI_pos (by omega)) (nI_clamp (by omega)) (by omega) dX11_feed_103 (fun f_14 H locs hP hD hS => ?_)
      have hP : va_P g vwCl [(h1, .inr (11, [.int 0, .int (nI n), .ref h2, x3, x4, x5, x6, x7, x8, x9, x10, x11, x12, x13, x14, x15, x16, x17, x18, x19, x20, x21, x22, x23, x24, x25, x26, x27, x28, x29, x30, x31, x32, x33, x34, x35, x36, x37, x38, x39, x40, x41, x42, x43, x44, x45, x46, x47, x48, x49, x50, x51, x52, x53, x54, x55, x56, x57, x58, x59, x60, x61, x62, x63, x64, x65, x66, x67, x68, x69, x70, x71, x72, x73])), (h2, .inl (aC 0, 1000, .inl f_14))] H := hP
      have hD : va_D A [(h1, .inr (11, [.int 0, .int (nI n), .ref h2, x3, x4, x5, x6, x7, x8, x9, x10, x11, x12, x13, x14, x15, x16, x17, x18, x19, x20, x21, x22, x23, x24, x25, x26, x27, x28, x29, x30, x31, x32, x33, x34, x35, x36, x37, x38, x39, x40, x41, x42, x43, x44, x45, x46, x47, x48, x49, x50, x51, x52, x53, x54, x55, x56, x57, x58, x59, x60, x61, x62, x63, x64, x65, x66, x67, x68, x69, x70, x71, x72, x73])), (h2, .inl (aC 0, 1000, .inl f_14))] := hD
      refine lv_aload_n hx hb dX11_feed_104 rfl (lv_at hl 3 rfl) ?_
      refine lv_dup hx hb dX11_feed_105 rfl ?_
      refine xget F hP 0 rfl rfl inX11 1 (by decide) tb1183 rfl dX11_feed_106 ?_
      refine lv_iconst (v := 1) hx hb dX11_feed_109 (by decide) ?_
      refine lv_iadd hx hb dX11_feed_110 ?_
      refine relit (v := (nI (n + 1))) (nadd (a := n) (b := 1) (by omega)) ?_
      refine xput F hP hD hS 0 rfl rfl inX11 tyX11_ok nmX11 1 (by decide) tb1183 rfl rfl rfl (Nat.le_of_ble_eq_true rfl) dX11_feed_111 (fun H locs hP hD hS => ?_)
      have hP : va_P g vwCl [(h1, .inr (11, [.int 0, .int (nI (n + 1)), .ref h2, x3, x4, x5, x6, x7, x8, x9, x10, x11, x12, x13, x14, x15, x16, x17, x18, x19, x20, x21, x22, x23, x24, x25, x26, x27, x28, x29, x30, x31, x32, x33, x34, x35, x36, x37, x38, x39, x40, x41, x42, x43, x44, x45, x46, x47, x48, x49, x50, x51, x52, x53, x54, x55, x56, x57, x58, x59, x60, x61, x62, x63, x64, x65, x66, x67, x68, x69, x70, x71, x72, x73])), (h2, .inl (aC 0, 1000, .inl f_14))] H := hP
      have hD : va_D A [(h1, .inr (11, [.int 0, .int (nI (n + 1)), .ref h2, x3, x4, x5, x6, x7, x8, x9, x10, x11, x12, x13, x14, x15, x16, x17, x18, x19, x20, x21, x22, x23, x24, x25, x26, x27, x28, x29, x30, x31, x32, x33, x34, x35, x36, x37, x38, x39, x40, x41, x42, x43, x44, x45, x46, x47, x48, x49, x50, x51, x52, x53, x54, x55, x56, x57, x58, x59, x60, x61, x62, x63, x64, x65, x66, x67, x68, x69, x70, x71, x72, x73])), (h2, .inl (aC 0, 1000, .inl f_14))] := hD
      refine lv_iinc (v := 23) (lv' := [(7, .int 23), (10, .int Sv), (8, .long m_3), (0, .ref h1), (1, .long m_1), (3, .long m_2), (5, .long m_3)]) hx hb dX11_feed_114 hl (k := 2) rfl (by decide +kernel) (by decide) rfl (fun ls hl => ?_)
      refine lv_goto (tgt := 8) hx hb dX11_feed_117 (by decide) ?_
      exact hc23 (n + 1) f_14 _ _ _ (f8_up 6 hn eSv (okb_eq c13)) (by omega) (hP.sub [0, 1] rfl) (hD.sub [0, 1] (by decide) rfl) hS (lv_sub hl [0, 3, 4, 5, 6] rfl)
    · refine lv_iload hx hb dX11_feed_79 (lv_at hl 0 rfl) ?_
      refine lv_bipush (v := 32) hx hb dX11_feed_81 (by decide) ?_
      refine lv_icmp_lt (tgt := 114) hx hb dX11_feed_83 (by decide) (fun c15 => ?_) (fun c15 => ?_)
      · refine lv_iinc (v := 23) (lv' := [(7, .int 23), (10, .int Sv), (8, .long m_3), (0, .ref h1), (1, .long m_1), (3, .long m_2), (5, .long m_3)]) hx hb dX11_feed_114 hl (k := 2) rfl (by decide +kernel) (by decide) rfl (fun ls hl => ?_)
        refine lv_goto (tgt := 8) hx hb dX11_feed_117 (by decide) ?_
        exact hc23 (n) f _ _ _ (f8_st 6 hn eSv (okb_lo c13 c15)) (by omega) (hP.sub [0, 1] rfl) (hD.sub [0, 1] (by decide) rfl) hS (lv_sub hl [0, 3, 4, 5, 6] rfl)
      · refine lv_iload hx hb dX11_feed_86 (lv_at hl 0 rfl) ?_
        refine lv_bipush (v := 126) hx hb dX11_feed_88 (by decide) ?_
        refine lv_icmp_gt (tgt := 114) hx hb dX11_feed_90 (by decide) (fun c16 => ?_) (fun c16 => ?_)
        · refine lv_iinc (v := 23) (lv' := [(7, .int 23), (10, .int Sv), (8, .long m_3), (0, .ref h1), (1, .long m_1), (3, .long m_2), (5, .long m_3)]) hx hb dX11_feed_114 hl (k := 2) rfl (by decide +kernel) (by decide) rfl (fun ls hl => ?_)
          refine lv_goto (tgt := 8) hx hb dX11_feed_117 (by decide) ?_
          exact hc23 (n) f _ _ _ (f8_st 6 hn eSv (okb_hi c13 c16)) (by omega) (hP.sub [0, 1] rfl) (hD.sub [0, 1] (by decide) rfl) hS (lv_sub hl [0, 3, 4, 5, 6] rfl)
        · refine lv_aload_n hx hb dX11_feed_93 rfl (lv_at hl 3 rfl) ?_
          refine xget F hP 0 rfl rfl inX11 2 (by decide) tb1184 rfl dX11_feed_94 ?_
          refine lv_aload_n hx hb dX11_feed_97 rfl (lv_at hl 3 rfl) ?_
          refine xget F hP 0 rfl rfl inX11 1 (by decide) tb1183 rfl dX11_feed_98 ?_
          refine lv_iload hx hb dX11_feed_101 (lv_at hl 0 rfl) ?_
          refine xistE F hP hD hS 1 rfl n (nI_pos (by omega)) (nI_clamp (by omega)) (by omega) dX11_feed_103 (fun f_17 H locs hP hD hS => ?_)
          have hP : va_P g vwCl [(h1, .inr (11, [.int 0, .int (nI n), .ref h2, x3, x4, x5, x6, x7, x8, x9, x10, x11, x12, x13, x14, x15, x16, x17, x18, x19, x20, x21, x22, x23, x24, x25, x26, x27, x28, x29, x30, x31, x32, x33, x34, x35, x36, x37, x38, x39, x40, x41, x42, x43, x44, x45, x46, x47, x48, x49, x50, x51, x52, x53, x54, x55, x56, x57, x58, x59, x60, x61, x62, x63, x64, x65, x66, x67, x68, x69, x70, x71, x72, x73])), (h2, .inl (aC 0, 1000, .inl f_17))] H := hP
          have hD : va_D A [(h1, .inr (11, [.int 0, .int (nI n), .ref h2, x3, x4, x5, x6, x7, x8, x9, x10, x11, x12, x13, x14, x15, x16, x17, x18, x19, x20, x21, x22, x23, x24, x25, x26, x27, x28, x29, x30, x31, x32, x33, x34, x35, x36, x37, x38, x39, x40, x41, x42, x43, x44, x45, x46, x47, x48, x49, x50, x51, x52, x53, x54, x55, x56, x57, x58, x59, x60, x61, x62, x63, x64, x65, x66, x67, x68, x69, x70, x71, x72, x73])), (h2, .inl (aC 0, 1000, .inl f_17))] := hD
          refine lv_aload_n hx hb dX11_feed_104 rfl (lv_at hl 3 rfl) ?_
          refine lv_dup hx hb dX11_feed_105 rfl ?_
          refine xget F hP 0 rfl rfl inX11 1 (by decide) tb1183 rfl dX11_feed_106 ?_
          refine lv_iconst (v := 1) hx hb dX11_feed_109 (by decide) ?_
          refine lv_iadd hx hb dX11_feed_110 ?_
          refine relit (v := (nI (n + 1))) (nadd (a := n) (b := 1) (by omega)) ?_
          refine xput F hP hD hS 0 rfl rfl inX11 tyX11_ok nmX11 1 (by decide) tb1183 rfl rfl rfl (Nat.le_of_ble_eq_true rfl) dX11_feed_111 (fun H locs hP hD hS => ?_)
          have hP : va_P g vwCl [(h1, .inr (11, [.int 0, .int (nI (n + 1)), .ref h2, x3, x4, x5, x6, x7, x8, x9, x10, x11, x12, x13, x14, x15, x16, x17, x18, x19, x20, x21, x22, x23, x24, x25, x26, x27, x28, x29, x30, x31, x32, x33, x34, x35, x36, x37, x38, x39, x40, x41, x42, x43, x44, x45, x46, x47, x48, x49, x50, x51, x52, x53, x54, x55, x56, x57, x58, x59, x60, x61, x62, x63, x64, x65, x66, x67, x68, x69, x70, x71, x72, x73])), (h2, .inl (aC 0, 1000, .inl f_17))] H := hP
          have hD : va_D A [(h1, .inr (11, [.int 0, .int (nI (n + 1)), .ref h2, x3, x4, x5, x6, x7, x8, x9, x10, x11, x12, x13, x14, x15, x16, x17, x18, x19, x20, x21, x22, x23, x24, x25, x26, x27, x28, x29, x30, x31, x32, x33, x34, x35, x36, x37, x38, x39, x40, x41, x42, x43, x44, x45, x46, x47, x48, x49, x50, x51, x52, x53, x54, x55, x56, x57, x58, x59, x60, x61, x62, x63, x64, x65, x66, x67, x68, x69, x70, x71, x72, x73])), (h2, .inl (aC 0, 1000, .inl f_17))] := hD
          refine lv_iinc (v := 23) (lv' := [(7, .int 23), (10, .int Sv), (8, .long m_3), (0, .ref h1), (1, .long m_1), (3, .long m_2), (5, .long m_3)]) hx hb dX11_feed_114 hl (k := 2) rfl (by decide +kernel) (by decide) rfl (fun ls hl => ?_)
          refine lv_goto (tgt := 8) hx hb dX11_feed_117 (by decide) ?_
          exact hc23 (n + 1) f_17 _ _ _ (f8_up 6 hn eSv (okb_in c15 c16)) (by omega) (hP.sub [0, 1] rfl) (hD.sub [0, 1] (by decide) rfl) hS (lv_sub hl [0, 3, 4, 5, 6] rfl)
  have hc21 : ∀ (n : Nat) (f : Nat → Int32) (H : Heap) (locs : List Loc) (ls : Array Slot), n = ((0 + f8 m_1 8) + f8 m_2 8) + f8 m_3 5 → n ≤ 21 → va_P g vwCl [(h1, .inr (11, [.int 0, .int (nI n), .ref h2, x3, x4, x5, x6, x7, x8, x9, x10, x11, x12, x13, x14, x15, x16, x17, x18, x19, x20, x21, x22, x23, x24, x25, x26, x27, x28, x29, x30, x31, x32, x33, x34, x35, x36, x37, x38, x39, x40, x41, x42, x43, x44, x45, x46, x47, x48, x49, x50, x51, x52, x53, x54, x55, x56, x57, x58, x59, x60, x61, x62, x63, x64, x65, x66, x67, x68, x69, x70, x71, x72, x73])), (h2, .inl (aC 0, 1000, .inl f))] H → va_D A [(h1, .inr (11, [.int 0, .int (nI n), .ref h2, x3, x4, x5, x6, x7, x8, x9, x10, x11, x12, x13, x14, x15, x16, x17, x18, x19, x20, x21, x22, x23, x24, x25, x26, x27, x28, x29, x30, x31, x32, x33, x34, x35, x36, x37, x38, x39, x40, x41, x42, x43, x44, x45, x46, x47, x48, x49, x50, x51, x52, x53, x54, x55, x56, x57, x58, x59, x60, x61, x62, x63, x64, x65, x66, x67, x68, x69, x70, x71, x72, x73])), (h2, .inl (aC 0, 1000, .inl f))] → va_S A s.heap H locs → lv_has ls 11 [(7, .int 21), (0, .ref h1), (1, .long m_1), (3, .long m_2), (5, .long m_3)] → W p l e (rmL 1 0 0) s m [.ref h1, .long m_1, .long m_2, .long m_3].toArray below meth c H locs 0 0 (MQ below (QI g (fun (r : Int32) (_ : Unit) => r = (nI (((0 + f8 m_1 8) + f8 m_2 8) + f8 m_3 8))) (fun (_ : Unit) => []) A) [.ref h1, .long m_1, .long m_2, .long m_3].toArray s 0 0 A) (F0 m 8 ls []) := by
    intro n f H locs ls hn hb_ hP hD hS hl
    refine lv_iload hx hb dX11_feed_8 (lv_at hl 0 rfl) ?_
    refine lv_bipush (v := 24) hx hb dX11_feed_10 (by decide) ?_
    refine lv_icmp_ge (tgt := 120) hx hb dX11_feed_12 (by decide) (fun c_ => absurd c_ (by decide +kernel)) (fun _ => ?_)
    refine lv_iload hx hb dX11_feed_15 (lv_at hl 0 rfl) ?_
    refine lv_bipush (v := 8) hx hb dX11_feed_17 (by decide) ?_
    refine lv_icmp_ge (tgt := 26) hx hb dX11_feed_19 (by decide) (fun _ => ?_) (fun c_ => absurd (by decide +kernel) c_)
    refine lv_iload hx hb dX11_feed_26 (lv_at hl 0 rfl) ?_
    refine lv_bipush (v := 16) hx hb dX11_feed_28 (by decide) ?_
    refine lv_icmp_ge (tgt := 37) hx hb dX11_feed_30 (by decide) (fun _ => ?_) (fun c_ => absurd (by decide +kernel) c_)
    refine lv_lload hx hb dX11_feed_37 (lv_at hl 4 rfl) ?_
    refine lv_lstore (lv' := [(8, .long m_3), (7, .int 21), (0, .ref h1), (1, .long m_1), (3, .long m_2), (5, .long m_3)]) hx hb dX11_feed_39 hl (by decide) rfl (fun ls hl => ?_)
    refine lv_lload hx hb dX11_feed_41 (lv_at hl 0 rfl) ?_
    refine lv_bipush (v := 56) hx hb dX11_feed_43 (by decide) ?_
    refine lv_bipush (v := 8) hx hb dX11_feed_45 (by decide) ?_
    refine lv_iload hx hb dX11_feed_47 (lv_at hl 1 rfl) ?_
    refine lv_bipush (v := 7) hx hb dX11_feed_49 (by decide) ?_
    refine lv_iand hx hb dX11_feed_51 ?_
    refine relit (v := 5) (by decide +kernel) ?_
    refine lv_imul hx hb dX11_feed_52 ?_
    refine relit (v := 40) (by decide +kernel) ?_
    refine lv_isub hx hb dX11_feed_53 ?_
    refine relit (v := 16) (by decide +kernel) ?_
    refine lv_lushr (v := ((m_3.toUInt64 >>> ((16 : Int32).toInt64.toUInt64 &&& Int64.toUInt64 63)).toInt64)) hx hb dX11_feed_54 rfl ?_
    refine lv_ldc2 (v := 255) hx hb hown (hts _ tb1414) dX11_feed_55 ?_
    refine lv_land hx hb dX11_feed_58 ?_
    refine lv_l2i (v := ((((m_3.toUInt64 >>> ((16 : Int32).toInt64.toUInt64 &&& Int64.toUInt64 63)).toInt64) &&& 255).toInt32)) hx hb dX11_feed_59 rfl ?_
    obtain ⟨Sv, eSv⟩ : ∃ z : Int32, z = ((((m_3.toUInt64 >>> ((16 : Int32).toInt64.toUInt64 &&& Int64.toUInt64 63)).toInt64) &&& 255).toInt32) := ⟨_, rfl⟩
    refine relit (v := Sv) eSv.symm ?_
    refine lv_istore (lv' := [(10, .int Sv), (8, .long m_3), (7, .int 21), (0, .ref h1), (1, .long m_1), (3, .long m_2), (5, .long m_3)]) hx hb dX11_feed_60 hl (by decide) rfl (fun ls hl => ?_)
    refine lv_aload_n hx hb dX11_feed_62 rfl (lv_at hl 3 rfl) ?_
    refine xget F hP 0 rfl rfl inX11 1 (by decide) tb1183 rfl dX11_feed_63 ?_
    refine lv_sipush (v := 1000) hx hb dX11_feed_66 (by decide) ?_
    refine lv_icmp_ge (tgt := 114) hx hb dX11_feed_69 (by decide) (fun c_ => absurd c_ (show ¬ (nI 1000 ≤ nI n) by rw [nI_leI (by omega) (by omega)]; omega)) (fun _ => ?_)
    refine lv_iload hx hb dX11_feed_72 (lv_at hl 0 rfl) ?_
    refine lv_bipush (v := 10) hx hb dX11_feed_74 (by decide) ?_
    refine lv_icmp_eq (tgt := 93) hx hb dX11_feed_76 (by decide) (fun c21 => ?_) (fun c21 => ?_)
    · refine lv_aload_n hx hb dX11_feed_93 rfl (lv_at hl 3 rfl) ?_
      refine xget F hP 0 rfl rfl inX11 2 (by decide) tb1184 rfl dX11_feed_94 ?_
      refine lv_aload_n hx hb dX11_feed_97 rfl (lv_at hl 3 rfl) ?_
      refine xget F hP 0 rfl rfl inX11 1 (by decide) tb1183 rfl dX11_feed_98 ?_
      refine lv_iload hx hb dX11_feed_101 (lv_at hl 0 rfl) ?_
      refine xistE F hP hD hS 1 rfl n (nI_pos (by omega)) (nI_clamp (by omega)) (by omega) dX11_feed_103 (fun f_22 H locs hP hD hS => ?_)
      have hP : va_P g vwCl [(h1, .inr (11, [.int 0, .int (nI n), .ref h2, x3, x4, x5, x6, x7, x8, x9, x10, x11, x12, x13, x14, x15, x16, x17, x18, x19, x20, x21, x22, x23, x24, x25, x26, x27, x28, x29, x30, x31, x32, x33, x34, x35, x36, x37, x38, x39, x40, x41, x42, x43, x44, x45, x46, x47, x48, x49, x50, x51, x52, x53, x54, x55, x56, x57, x58, x59, x60, x61, x62, x63, x64, x65, x66, x67, x68, x69, x70, x71, x72, x73])), (h2, .inl (aC 0, 1000, .inl f_22))] H := hP
      have hD : va_D A [(h1, .inr (11, [.int 0, .int (nI n), .ref h2, x3, x4, x5, x6, x7, x8, x9, x10, x11, x12, x13, x14, x15, x16, x17, x18, x19, x20, x21, x22, x23, x24, x25, x26, x27, x28, x29, x30, x31, x32, x33, x34, x35, x36, x37, x38, x39, x40, x41, x42, x43, x44, x45, x46, x47, x48, x49, x50, x51, x52, x53, x54, x55, x56, x57, x58, x59, x60, x61, x62, x63, x64, x65, x66, x67, x68, x69, x70, x71, x72, x73])), (h2, .inl (aC 0, 1000, .inl f_22))] := hD
      refine lv_aload_n hx hb dX11_feed_104 rfl (lv_at hl 3 rfl) ?_
      refine lv_dup hx hb dX11_feed_105 rfl ?_
      refine xget F hP 0 rfl rfl inX11 1 (by decide) tb1183 rfl dX11_feed_106 ?_
      refine lv_iconst (v := 1) hx hb dX11_feed_109 (by decide) ?_
      refine lv_iadd hx hb dX11_feed_110 ?_
      refine relit (v := (nI (n + 1))) (nadd (a := n) (b := 1) (by omega)) ?_
      refine xput F hP hD hS 0 rfl rfl inX11 tyX11_ok nmX11 1 (by decide) tb1183 rfl rfl rfl (Nat.le_of_ble_eq_true rfl) dX11_feed_111 (fun H locs hP hD hS => ?_)
      have hP : va_P g vwCl [(h1, .inr (11, [.int 0, .int (nI (n + 1)), .ref h2, x3, x4, x5, x6, x7, x8, x9, x10, x11, x12, x13, x14, x15, x16, x17, x18, x19, x20, x21, x22, x23, x24, x25, x26, x27, x28, x29, x30, x31, x32, x33, x34, x35, x36, x37, x38, x39, x40, x41, x42, x43, x44, x45, x46, x47, x48, x49, x50, x51, x52, x53, x54, x55, x56, x57, x58, x59, x60, x61, x62, x63, x64, x65, x66, x67, x68, x69, x70, x71, x72, x73])), (h2, .inl (aC 0, 1000, .inl f_22))] H := hP
      have hD : va_D A [(h1, .inr (11, [.int 0, .int (nI (n + 1)), .ref h2, x3, x4, x5, x6, x7, x8, x9, x10, x11, x12, x13, x14, x15, x16, x17, x18, x19, x20, x21, x22, x23, x24, x25, x26, x27, x28, x29, x30, x31, x32, x33, x34, x35, x36, x37, x38, x39, x40, x41, x42, x43, x44, x45, x46, x47, x48, x49, x50, x51, x52, x53, x54, x55, x56, x57, x58, x59, x60, x61, x62, x63, x64, x65, x66, x67, x68, x69, x70, x71, x72, x73])), (h2, .inl (aC 0, 1000, .inl f_22))] := hD
      refine lv_iinc (v := 22) (lv' := [(7, .int 22), (10, .int Sv), (8, .long m_3), (0, .ref h1), (1, .long m_1), (3, .long m_2), (5, .long m_3)]) hx hb dX11_feed_114 hl (k := 2) rfl (by decide +kernel) (by decide) rfl (fun ls hl => ?_)
      refine lv_goto (tgt := 8) hx hb dX11_feed_117 (by decide) ?_
      exact hc22 (n + 1) f_22 _ _ _ (f8_up 5 hn eSv (okb_eq c21)) (by omega) (hP.sub [0, 1] rfl) (hD.sub [0, 1] (by decide) rfl) hS (lv_sub hl [0, 3, 4, 5, 6] rfl)
    · refine lv_iload hx hb dX11_feed_79 (lv_at hl 0 rfl) ?_
      refine lv_bipush (v := 32) hx hb dX11_feed_81 (by decide) ?_
      refine lv_icmp_lt (tgt := 114) hx hb dX11_feed_83 (by decide) (fun c23 => ?_) (fun c23 => ?_)
      · refine lv_iinc (v := 22) (lv' := [(7, .int 22), (10, .int Sv), (8, .long m_3), (0, .ref h1), (1, .long m_1), (3, .long m_2), (5, .long m_3)]) hx hb dX11_feed_114 hl (k := 2) rfl (by decide +kernel) (by decide) rfl (fun ls hl => ?_)
        refine lv_goto (tgt := 8) hx hb dX11_feed_117 (by decide) ?_
        exact hc22 (n) f _ _ _ (f8_st 5 hn eSv (okb_lo c21 c23)) (by omega) (hP.sub [0, 1] rfl) (hD.sub [0, 1] (by decide) rfl) hS (lv_sub hl [0, 3, 4, 5, 6] rfl)
      · refine lv_iload hx hb dX11_feed_86 (lv_at hl 0 rfl) ?_
        refine lv_bipush (v := 126) hx hb dX11_feed_88 (by decide) ?_
        refine lv_icmp_gt (tgt := 114) hx hb dX11_feed_90 (by decide) (fun c24 => ?_) (fun c24 => ?_)
        · refine lv_iinc (v := 22) (lv' := [(7, .int 22), (10, .int Sv), (8, .long m_3), (0, .ref h1), (1, .long m_1), (3, .long m_2), (5, .long m_3)]) hx hb dX11_feed_114 hl (k := 2) rfl (by decide +kernel) (by decide) rfl (fun ls hl => ?_)
          refine lv_goto (tgt := 8) hx hb dX11_feed_117 (by decide) ?_
          exact hc22 (n) f _ _ _ (f8_st 5 hn eSv (okb_hi c21 c24)) (by omega) (hP.sub [0, 1] rfl) (hD.sub [0, 1] (by decide) rfl) hS (lv_sub hl [0, 3, 4, 5, 6] rfl)
        · refine lv_aload_n hx hb dX11_feed_93 rfl (lv_at hl 3 rfl) ?_
          refine xget F hP 0 rfl rfl inX11 2 (by decide) tb1184 rfl dX11_feed_94 ?_
          refine lv_aload_n hx hb dX11_feed_97 rfl (lv_at hl 3 rfl) ?_
          refine xget F hP 0 rfl rfl inX11 1 (by decide) tb1183 rfl dX11_feed_98 ?_
          refine lv_iload hx hb dX11_feed_101 (lv_at hl 0 rfl) ?_
          refine xistE F hP hD hS 1 rfl n (nI_pos (by omega)) (nI_clamp (by omega)) (by omega) dX11_feed_103 (fun f_25 H locs hP hD hS => ?_)
          have hP : va_P g vwCl [(h1, .inr (11, [.int 0, .int (nI n), .ref h2, x3, x4, x5, x6, x7, x8, x9, x10, x11, x12, x13, x14, x15, x16, x17, x18, x19, x20, x21, x22, x23, x24, x25, x26, x27, x28, x29, x30, x31, x32, x33, x34, x35, x36, x37, x38, x39, x40, x41, x42, x43, x44, x45, x46, x47, x48, x49, x50, x51, x52, x53, x54, x55, x56, x57, x58, x59, x60, x61, x62, x63, x64, x65, x66, x67, x68, x69, x70, x71, x72, x73])), (h2, .inl (aC 0, 1000, .inl f_25))] H := hP
          have hD : va_D A [(h1, .inr (11, [.int 0, .int (nI n), .ref h2, x3, x4, x5, x6, x7, x8, x9, x10, x11, x12, x13, x14, x15, x16, x17, x18, x19, x20, x21, x22, x23, x24, x25, x26, x27, x28, x29, x30, x31, x32, x33, x34, x35, x36, x37, x38, x39, x40, x41, x42, x43, x44, x45, x46, x47, x48, x49, x50, x51, x52, x53, x54, x55, x56, x57, x58, x59, x60, x61, x62, x63, x64, x65, x66, x67, x68, x69, x70, x71, x72, x73])), (h2, .inl (aC 0, 1000, .inl f_25))] := hD
          refine lv_aload_n hx hb dX11_feed_104 rfl (lv_at hl 3 rfl) ?_
          refine lv_dup hx hb dX11_feed_105 rfl ?_
          refine xget F hP 0 rfl rfl inX11 1 (by decide) tb1183 rfl dX11_feed_106 ?_
          refine lv_iconst (v := 1) hx hb dX11_feed_109 (by decide) ?_
          refine lv_iadd hx hb dX11_feed_110 ?_
          refine relit (v := (nI (n + 1))) (nadd (a := n) (b := 1) (by omega)) ?_
          refine xput F hP hD hS 0 rfl rfl inX11 tyX11_ok nmX11 1 (by decide) tb1183 rfl rfl rfl (Nat.le_of_ble_eq_true rfl) dX11_feed_111 (fun H locs hP hD hS => ?_)
          have hP : va_P g vwCl [(h1, .inr (11, [.int 0, .int (nI (n + 1)), .ref h2, x3, x4, x5, x6, x7, x8, x9, x10, x11, x12, x13, x14, x15, x16, x17, x18, x19, x20, x21, x22, x23, x24, x25, x26, x27, x28, x29, x30, x31, x32, x33, x34, x35, x36, x37, x38, x39, x40, x41, x42, x43, x44, x45, x46, x47, x48, x49, x50, x51, x52, x53, x54, x55, x56, x57, x58, x59, x60, x61, x62, x63, x64, x65, x66, x67, x68, x69, x70, x71, x72, x73])), (h2, .inl (aC 0, 1000, .inl f_25))] H := hP
          have hD : va_D A [(h1, .inr (11, [.int 0, .int (nI (n + 1)), .ref h2, x3, x4, x5, x6, x7, x8, x9, x10, x11, x12, x13, x14, x15, x16, x17, x18, x19, x20, x21, x22, x23, x24, x25, x26, x27, x28, x29, x30, x31, x32, x33, x34, x35, x36, x37, x38, x39, x40, x41, x42, x43, x44, x45, x46, x47, x48, x49, x50, x51, x52, x53, x54, x55, x56, x57, x58, x59, x60, x61, x62, x63, x64, x65, x66, x67, x68, x69, x70, x71, x72, x73])), (h2, .inl (aC 0, 1000, .inl f_25))] := hD
          refine lv_iinc (v := 22) (lv' := [(7, .int 22), (10, .int Sv), (8, .long m_3), (0, .ref h1), (1, .long m_1), (3, .long m_2), (5, .long m_3)]) hx hb dX11_feed_114 hl (k := 2) rfl (by decide +kernel) (by decide) rfl (fun ls hl => ?_)
          refine lv_goto (tgt := 8) hx hb dX11_feed_117 (by decide) ?_
          exact hc22 (n + 1) f_25 _ _ _ (f8_up 5 hn eSv (okb_in c23 c24)) (by omega) (hP.sub [0, 1] rfl) (hD.sub [0, 1] (by decide) rfl) hS (lv_sub hl [0, 3, 4, 5, 6] rfl)
  have hc20 : ∀ (n : Nat) (f : Nat → Int32) (H : Heap) (locs : List Loc) (ls : Array Slot), n = ((0 + f8 m_1 8) + f8 m_2 8) + f8 m_3 4 → n ≤ 20 → va_P g vwCl [(h1, .inr (11, [.int 0, .int (nI n), .ref h2, x3, x4, x5, x6, x7, x8, x9, x10, x11, x12, x13, x14, x15, x16, x17, x18, x19, x20, x21, x22, x23, x24, x25, x26, x27, x28, x29, x30, x31, x32, x33, x34, x35, x36, x37, x38, x39, x40, x41, x42, x43, x44, x45, x46, x47, x48, x49, x50, x51, x52, x53, x54, x55, x56, x57, x58, x59, x60, x61, x62, x63, x64, x65, x66, x67, x68, x69, x70, x71, x72, x73])), (h2, .inl (aC 0, 1000, .inl f))] H → va_D A [(h1, .inr (11, [.int 0, .int (nI n), .ref h2, x3, x4, x5, x6, x7, x8, x9, x10, x11, x12, x13, x14, x15, x16, x17, x18, x19, x20, x21, x22, x23, x24, x25, x26, x27, x28, x29, x30, x31, x32, x33, x34, x35, x36, x37, x38, x39, x40, x41, x42, x43, x44, x45, x46, x47, x48, x49, x50, x51, x52, x53, x54, x55, x56, x57, x58, x59, x60, x61, x62, x63, x64, x65, x66, x67, x68, x69, x70, x71, x72, x73])), (h2, .inl (aC 0, 1000, .inl f))] → va_S A s.heap H locs → lv_has ls 11 [(7, .int 20), (0, .ref h1), (1, .long m_1), (3, .long m_2), (5, .long m_3)] → W p l e (rmL 1 0 0) s m [.ref h1, .long m_1, .long m_2, .long m_3].toArray below meth c H locs 0 0 (MQ below (QI g (fun (r : Int32) (_ : Unit) => r = (nI (((0 + f8 m_1 8) + f8 m_2 8) + f8 m_3 8))) (fun (_ : Unit) => []) A) [.ref h1, .long m_1, .long m_2, .long m_3].toArray s 0 0 A) (F0 m 8 ls []) := by
    intro n f H locs ls hn hb_ hP hD hS hl
    refine lv_iload hx hb dX11_feed_8 (lv_at hl 0 rfl) ?_
    refine lv_bipush (v := 24) hx hb dX11_feed_10 (by decide) ?_
    refine lv_icmp_ge (tgt := 120) hx hb dX11_feed_12 (by decide) (fun c_ => absurd c_ (by decide +kernel)) (fun _ => ?_)
    refine lv_iload hx hb dX11_feed_15 (lv_at hl 0 rfl) ?_
    refine lv_bipush (v := 8) hx hb dX11_feed_17 (by decide) ?_
    refine lv_icmp_ge (tgt := 26) hx hb dX11_feed_19 (by decide) (fun _ => ?_) (fun c_ => absurd (by decide +kernel) c_)
    refine lv_iload hx hb dX11_feed_26 (lv_at hl 0 rfl) ?_
    refine lv_bipush (v := 16) hx hb dX11_feed_28 (by decide) ?_
    refine lv_icmp_ge (tgt := 37) hx hb dX11_feed_30 (by decide) (fun _ => ?_) (fun c_ => absurd (by decide +kernel) c_)
    refine lv_lload hx hb dX11_feed_37 (lv_at hl 4 rfl) ?_
    refine lv_lstore (lv' := [(8, .long m_3), (7, .int 20), (0, .ref h1), (1, .long m_1), (3, .long m_2), (5, .long m_3)]) hx hb dX11_feed_39 hl (by decide) rfl (fun ls hl => ?_)
    refine lv_lload hx hb dX11_feed_41 (lv_at hl 0 rfl) ?_
    refine lv_bipush (v := 56) hx hb dX11_feed_43 (by decide) ?_
    refine lv_bipush (v := 8) hx hb dX11_feed_45 (by decide) ?_
    refine lv_iload hx hb dX11_feed_47 (lv_at hl 1 rfl) ?_
    refine lv_bipush (v := 7) hx hb dX11_feed_49 (by decide) ?_
    refine lv_iand hx hb dX11_feed_51 ?_
    refine relit (v := 4) (by decide +kernel) ?_
    refine lv_imul hx hb dX11_feed_52 ?_
    refine relit (v := 32) (by decide +kernel) ?_
    refine lv_isub hx hb dX11_feed_53 ?_
    refine relit (v := 24) (by decide +kernel) ?_
    refine lv_lushr (v := ((m_3.toUInt64 >>> ((24 : Int32).toInt64.toUInt64 &&& Int64.toUInt64 63)).toInt64)) hx hb dX11_feed_54 rfl ?_
    refine lv_ldc2 (v := 255) hx hb hown (hts _ tb1414) dX11_feed_55 ?_
    refine lv_land hx hb dX11_feed_58 ?_
    refine lv_l2i (v := ((((m_3.toUInt64 >>> ((24 : Int32).toInt64.toUInt64 &&& Int64.toUInt64 63)).toInt64) &&& 255).toInt32)) hx hb dX11_feed_59 rfl ?_
    obtain ⟨Sv, eSv⟩ : ∃ z : Int32, z = ((((m_3.toUInt64 >>> ((24 : Int32).toInt64.toUInt64 &&& Int64.toUInt64 63)).toInt64) &&& 255).toInt32) := ⟨_, rfl⟩
    refine relit (v := Sv) eSv.symm ?_
    refine lv_istore (lv' := [(10, .int Sv), (8, .long m_3), (7, .int 20), (0, .ref h1), (1, .long m_1), (3, .long m_2), (5, .long m_3)]) hx hb dX11_feed_60 hl (by decide) rfl (fun ls hl => ?_)
    refine lv_aload_n hx hb dX11_feed_62 rfl (lv_at hl 3 rfl) ?_
    refine xget F hP 0 rfl rfl inX11 1 (by decide) tb1183 rfl dX11_feed_63 ?_
    refine lv_sipush (v := 1000) hx hb dX11_feed_66 (by decide) ?_
    refine lv_icmp_ge (tgt := 114) hx hb dX11_feed_69 (by decide) (fun c_ => absurd c_ (show ¬ (nI 1000 ≤ nI n) by rw [nI_leI (by omega) (by omega)]; omega)) (fun _ => ?_)
    refine lv_iload hx hb dX11_feed_72 (lv_at hl 0 rfl) ?_
    refine lv_bipush (v := 10) hx hb dX11_feed_74 (by decide) ?_
    refine lv_icmp_eq (tgt := 93) hx hb dX11_feed_76 (by decide) (fun c29 => ?_) (fun c29 => ?_)
    · refine lv_aload_n hx hb dX11_feed_93 rfl (lv_at hl 3 rfl) ?_
      refine xget F hP 0 rfl rfl inX11 2 (by decide) tb1184 rfl dX11_feed_94 ?_
      refine lv_aload_n hx hb dX11_feed_97 rfl (lv_at hl 3 rfl) ?_
      refine xget F hP 0 rfl rfl inX11 1 (by decide) tb1183 rfl dX11_feed_98 ?_
      refine lv_iload hx hb dX11_feed_101 (lv_at hl 0 rfl) ?_
      refine xistE F hP hD hS 1 rfl n (nI_pos (by omega)) (nI_clamp (by omega)) (by omega) dX11_feed_103 (fun f_30 H locs hP hD hS => ?_)
      have hP : va_P g vwCl [(h1, .inr (11, [.int 0, .int (nI n), .ref h2, x3, x4, x5, x6, x7, x8, x9, x10, x11, x12, x13, x14, x15, x16, x17, x18, x19, x20, x21, x22, x23, x24, x25, x26, x27, x28, x29, x30, x31, x32, x33, x34, x35, x36, x37, x38, x39, x40, x41, x42, x43, x44, x45, x46, x47, x48, x49, x50, x51, x52, x53, x54, x55, x56, x57, x58, x59, x60, x61, x62, x63, x64, x65, x66, x67, x68, x69, x70, x71, x72, x73])), (h2, .inl (aC 0, 1000, .inl f_30))] H := hP
      have hD : va_D A [(h1, .inr (11, [.int 0, .int (nI n), .ref h2, x3, x4, x5, x6, x7, x8, x9, x10, x11, x12, x13, x14, x15, x16, x17, x18, x19, x20, x21, x22, x23, x24, x25, x26, x27, x28, x29, x30, x31, x32, x33, x34, x35, x36, x37, x38, x39, x40, x41, x42, x43, x44, x45, x46, x47, x48, x49, x50, x51, x52, x53, x54, x55, x56, x57, x58, x59, x60, x61, x62, x63, x64, x65, x66, x67, x68, x69, x70, x71, x72, x73])), (h2, .inl (aC 0, 1000, .inl f_30))] := hD
      refine lv_aload_n hx hb dX11_feed_104 rfl (lv_at hl 3 rfl) ?_
      refine lv_dup hx hb dX11_feed_105 rfl ?_
      refine xget F hP 0 rfl rfl inX11 1 (by decide) tb1183 rfl dX11_feed_106 ?_
      refine lv_iconst (v := 1) hx hb dX11_feed_109 (by decide) ?_
      refine lv_iadd hx hb dX11_feed_110 ?_
      refine relit (v := (nI (n + 1))) (nadd (a := n) (b := 1) (by omega)) ?_
      refine xput F hP hD hS 0 rfl rfl inX11 tyX11_ok nmX11 1 (by decide) tb1183 rfl rfl rfl (Nat.le_of_ble_eq_true rfl) dX11_feed_111 (fun H locs hP hD hS => ?_)
      have hP : va_P g vwCl [(h1, .inr (11, [.int 0, .int (nI (n + 1)), .ref h2, x3, x4, x5, x6, x7, x8, x9, x10, x11, x12, x13, x14, x15, x16, x17, x18, x19, x20, x21, x22, x23, x24, x25, x26, x27, x28, x29, x30, x31, x32, x33, x34, x35, x36, x37, x38, x39, x40, x41, x42, x43, x44, x45, x46, x47, x48, x49, x50, x51, x52, x53, x54, x55, x56, x57, x58, x59, x60, x61, x62, x63, x64, x65, x66, x67, x68, x69, x70, x71, x72, x73])), (h2, .inl (aC 0, 1000, .inl f_30))] H := hP
      have hD : va_D A [(h1, .inr (11, [.int 0, .int (nI (n + 1)), .ref h2, x3, x4, x5, x6, x7, x8, x9, x10, x11, x12, x13, x14, x15, x16, x17, x18, x19, x20, x21, x22, x23, x24, x25, x26, x27, x28, x29, x30, x31, x32, x33, x34, x35, x36, x37, x38, x39, x40, x41, x42, x43, x44, x45, x46, x47, x48, x49, x50, x51, x52, x53, x54, x55, x56, x57, x58, x59, x60, x61, x62, x63, x64, x65, x66, x67, x68, x69, x70, x71, x72, x73])), (h2, .inl (aC 0, 1000, .inl f_30))] := hD
      refine lv_iinc (v := 21) (lv' := [(7, .int 21), (10, .int Sv), (8, .long m_3), (0, .ref h1), (1, .long m_1), (3, .long m_2), (5, .long m_3)]) hx hb dX11_feed_114 hl (k := 2) rfl (by decide +kernel) (by decide) rfl (fun ls hl => ?_)
      refine lv_goto (tgt := 8) hx hb dX11_feed_117 (by decide) ?_
      exact hc21 (n + 1) f_30 _ _ _ (f8_up 4 hn eSv (okb_eq c29)) (by omega) (hP.sub [0, 1] rfl) (hD.sub [0, 1] (by decide) rfl) hS (lv_sub hl [0, 3, 4, 5, 6] rfl)
    · refine lv_iload hx hb dX11_feed_79 (lv_at hl 0 rfl) ?_
      refine lv_bipush (v := 32) hx hb dX11_feed_81 (by decide) ?_
      refine lv_icmp_lt (tgt := 114) hx hb dX11_feed_83 (by decide) (fun c31 => ?_) (fun c31 => ?_)
      · refine lv_iinc (v := 21) (lv' := [(7, .int 21), (10, .int Sv), (8, .long m_3), (0, .ref h1), (1, .long m_1), (3, .long m_2), (5, .long m_3)]) hx hb dX11_feed_114 hl (k := 2) rfl (by decide +kernel) (by decide) rfl (fun ls hl => ?_)
        refine lv_goto (tgt := 8) hx hb dX11_feed_117 (by decide) ?_
        exact hc21 (n) f _ _ _ (f8_st 4 hn eSv (okb_lo c29 c31)) (by omega) (hP.sub [0, 1] rfl) (hD.sub [0, 1] (by decide) rfl) hS (lv_sub hl [0, 3, 4, 5, 6] rfl)
      · refine lv_iload hx hb dX11_feed_86 (lv_at hl 0 rfl) ?_
        refine lv_bipush (v := 126) hx hb dX11_feed_88 (by decide) ?_
        refine lv_icmp_gt (tgt := 114) hx hb dX11_feed_90 (by decide) (fun c32 => ?_) (fun c32 => ?_)
        · refine lv_iinc (v := 21) (lv' := [(7, .int 21), (10, .int Sv), (8, .long m_3), (0, .ref h1), (1, .long m_1), (3, .long m_2), (5, .long m_3)]) hx hb dX11_feed_114 hl (k := 2) rfl (by decide +kernel) (by decide) rfl (fun ls hl => ?_)
          refine lv_goto (tgt := 8) hx hb dX11_feed_117 (by decide) ?_
          exact hc21 (n) f _ _ _ (f8_st 4 hn eSv (okb_hi c29 c32)) (by omega) (hP.sub [0, 1] rfl) (hD.sub [0, 1] (by decide) rfl) hS (lv_sub hl [0, 3, 4, 5, 6] rfl)
        · refine lv_aload_n hx hb dX11_feed_93 rfl (lv_at hl 3 rfl) ?_
          refine xget F hP 0 rfl rfl inX11 2 (by decide) tb1184 rfl dX11_feed_94 ?_
          refine lv_aload_n hx hb dX11_feed_97 rfl (lv_at hl 3 rfl) ?_
          refine xget F hP 0 rfl rfl inX11 1 (by decide) tb1183 rfl dX11_feed_98 ?_
          refine lv_iload hx hb dX11_feed_101 (lv_at hl 0 rfl) ?_
          refine xistE F hP hD hS 1 rfl n (nI_pos (by omega)) (nI_clamp (by omega)) (by omega) dX11_feed_103 (fun f_33 H locs hP hD hS => ?_)
          have hP : va_P g vwCl [(h1, .inr (11, [.int 0, .int (nI n), .ref h2, x3, x4, x5, x6, x7, x8, x9, x10, x11, x12, x13, x14, x15, x16, x17, x18, x19, x20, x21, x22, x23, x24, x25, x26, x27, x28, x29, x30, x31, x32, x33, x34, x35, x36, x37, x38, x39, x40, x41, x42, x43, x44, x45, x46, x47, x48, x49, x50, x51, x52, x53, x54, x55, x56, x57, x58, x59, x60, x61, x62, x63, x64, x65, x66, x67, x68, x69, x70, x71, x72, x73])), (h2, .inl (aC 0, 1000, .inl f_33))] H := hP
          have hD : va_D A [(h1, .inr (11, [.int 0, .int (nI n), .ref h2, x3, x4, x5, x6, x7, x8, x9, x10, x11, x12, x13, x14, x15, x16, x17, x18, x19, x20, x21, x22, x23, x24, x25, x26, x27, x28, x29, x30, x31, x32, x33, x34, x35, x36, x37, x38, x39, x40, x41, x42, x43, x44, x45, x46, x47, x48, x49, x50, x51, x52, x53, x54, x55, x56, x57, x58, x59, x60, x61, x62, x63, x64, x65, x66, x67, x68, x69, x70, x71, x72, x73])), (h2, .inl (aC 0, 1000, .inl f_33))] := hD
          refine lv_aload_n hx hb dX11_feed_104 rfl (lv_at hl 3 rfl) ?_
          refine lv_dup hx hb dX11_feed_105 rfl ?_
          refine xget F hP 0 rfl rfl inX11 1 (by decide) tb1183 rfl dX11_feed_106 ?_
          refine lv_iconst (v := 1) hx hb dX11_feed_109 (by decide) ?_
          refine lv_iadd hx hb dX11_feed_110 ?_
          refine relit (v := (nI (n + 1))) (nadd (a := n) (b := 1) (by omega)) ?_
          refine xput F hP hD hS 0 rfl rfl inX11 tyX11_ok nmX11 1 (by decide) tb1183 rfl rfl rfl (Nat.le_of_ble_eq_true rfl) dX11_feed_111 (fun H locs hP hD hS => ?_)
          have hP : va_P g vwCl [(h1, .inr (11, [.int 0, .int (nI (n + 1)), .ref h2, x3, x4, x5, x6, x7, x8, x9, x10, x11, x12, x13, x14, x15, x16, x17, x18, x19, x20, x21, x22, x23, x24, x25, x26, x27, x28, x29, x30, x31, x32, x33, x34, x35, x36, x37, x38, x39, x40, x41, x42, x43, x44, x45, x46, x47, x48, x49, x50, x51, x52, x53, x54, x55, x56, x57, x58, x59, x60, x61, x62, x63, x64, x65, x66, x67, x68, x69, x70, x71, x72, x73])), (h2, .inl (aC 0, 1000, .inl f_33))] H := hP
          have hD : va_D A [(h1, .inr (11, [.int 0, .int (nI (n + 1)), .ref h2, x3, x4, x5, x6, x7, x8, x9, x10, x11, x12, x13, x14, x15, x16, x17, x18, x19, x20, x21, x22, x23, x24, x25, x26, x27, x28, x29, x30, x31, x32, x33, x34, x35, x36, x37, x38, x39, x40, x41, x42, x43, x44, x45, x46, x47, x48, x49, x50, x51, x52, x53, x54, x55, x56, x57, x58, x59, x60, x61, x62, x63, x64, x65, x66, x67, x68, x69, x70, x71, x72, x73])), (h2, .inl (aC 0, 1000, .inl f_33))] := hD
          refine lv_iinc (v := 21) (lv' := [(7, .int 21), (10, .int Sv), (8, .long m_3), (0, .ref h1), (1, .long m_1), (3, .long m_2), (5, .long m_3)]) hx hb dX11_feed_114 hl (k := 2) rfl (by decide +kernel) (by decide) rfl (fun ls hl => ?_)
          refine lv_goto (tgt := 8) hx hb dX11_feed_117 (by decide) ?_
          exact hc21 (n + 1) f_33 _ _ _ (f8_up 4 hn eSv (okb_in c31 c32)) (by omega) (hP.sub [0, 1] rfl) (hD.sub [0, 1] (by decide) rfl) hS (lv_sub hl [0, 3, 4, 5, 6] rfl)
  have hc19 : ∀ (n : Nat) (f : Nat → Int32) (H : Heap) (locs : List Loc) (ls : Array Slot), n = ((0 + f8 m_1 8) + f8 m_2 8) + f8 m_3 3 → n ≤ 19 → va_P g vwCl [(h1, .inr (11, [.int 0, .int (nI n), .ref h2, x3, x4, x5, x6, x7, x8, x9, x10, x11, x12, x13, x14, x15, x16, x17, x18, x19, x20, x21, x22, x23, x24, x25, x26, x27, x28, x29, x30, x31, x32, x33, x34, x35, x36, x37, x38, x39, x40, x41, x42, x43, x44, x45, x46, x47, x48, x49, x50, x51, x52, x53, x54, x55, x56, x57, x58, x59, x60, x61, x62, x63, x64, x65, x66, x67, x68, x69, x70, x71, x72, x73])), (h2, .inl (aC 0, 1000, .inl f))] H → va_D A [(h1, .inr (11, [.int 0, .int (nI n), .ref h2, x3, x4, x5, x6, x7, x8, x9, x10, x11, x12, x13, x14, x15, x16, x17, x18, x19, x20, x21, x22, x23, x24, x25, x26, x27, x28, x29, x30, x31, x32, x33, x34, x35, x36, x37, x38, x39, x40, x41, x42, x43, x44, x45, x46, x47, x48, x49, x50, x51, x52, x53, x54, x55, x56, x57, x58, x59, x60, x61, x62, x63, x64, x65, x66, x67, x68, x69, x70, x71, x72, x73])), (h2, .inl (aC 0, 1000, .inl f))] → va_S A s.heap H locs → lv_has ls 11 [(7, .int 19), (0, .ref h1), (1, .long m_1), (3, .long m_2), (5, .long m_3)] → W p l e (rmL 1 0 0) s m [.ref h1, .long m_1, .long m_2, .long m_3].toArray below meth c H locs 0 0 (MQ below (QI g (fun (r : Int32) (_ : Unit) => r = (nI (((0 + f8 m_1 8) + f8 m_2 8) + f8 m_3 8))) (fun (_ : Unit) => []) A) [.ref h1, .long m_1, .long m_2, .long m_3].toArray s 0 0 A) (F0 m 8 ls []) := by
    intro n f H locs ls hn hb_ hP hD hS hl
    refine lv_iload hx hb dX11_feed_8 (lv_at hl 0 rfl) ?_
    refine lv_bipush (v := 24) hx hb dX11_feed_10 (by decide) ?_
    refine lv_icmp_ge (tgt := 120) hx hb dX11_feed_12 (by decide) (fun c_ => absurd c_ (by decide +kernel)) (fun _ => ?_)
    refine lv_iload hx hb dX11_feed_15 (lv_at hl 0 rfl) ?_
    refine lv_bipush (v := 8) hx hb dX11_feed_17 (by decide) ?_
    refine lv_icmp_ge (tgt := 26) hx hb dX11_feed_19 (by decide) (fun _ => ?_) (fun c_ => absurd (by decide +kernel) c_)
    refine lv_iload hx hb dX11_feed_26 (lv_at hl 0 rfl) ?_
    refine lv_bipush (v := 16) hx hb dX11_feed_28 (by decide) ?_
    refine lv_icmp_ge (tgt := 37) hx hb dX11_feed_30 (by decide) (fun _ => ?_) (fun c_ => absurd (by decide +kernel) c_)
    refine lv_lload hx hb dX11_feed_37 (lv_at hl 4 rfl) ?_
    refine lv_lstore (lv' := [(8, .long m_3), (7, .int 19), (0, .ref h1), (1, .long m_1), (3, .long m_2), (5, .long m_3)]) hx hb dX11_feed_39 hl (by decide) rfl (fun ls hl => ?_)
    refine lv_lload hx hb dX11_feed_41 (lv_at hl 0 rfl) ?_
    refine lv_bipush (v := 56) hx hb dX11_feed_43 (by decide) ?_
    refine lv_bipush (v := 8) hx hb dX11_feed_45 (by decide) ?_
    refine lv_iload hx hb dX11_feed_47 (lv_at hl 1 rfl) ?_
    refine lv_bipush (v := 7) hx hb dX11_feed_49 (by decide) ?_
    refine lv_iand hx hb dX11_feed_51 ?_
    refine relit (v := 3) (by decide +kernel) ?_
    refine lv_imul hx hb dX11_feed_52 ?_
    refine relit (v := 24) (by decide +kernel) ?_
    refine lv_isub hx hb dX11_feed_53 ?_
    refine relit (v := 32) (by decide +kernel) ?_
    refine lv_lushr (v := ((m_3.toUInt64 >>> ((32 : Int32).toInt64.toUInt64 &&& Int64.toUInt64 63)).toInt64)) hx hb dX11_feed_54 rfl ?_
    refine lv_ldc2 (v := 255) hx hb hown (hts _ tb1414) dX11_feed_55 ?_
    refine lv_land hx hb dX11_feed_58 ?_
    refine lv_l2i (v := ((((m_3.toUInt64 >>> ((32 : Int32).toInt64.toUInt64 &&& Int64.toUInt64 63)).toInt64) &&& 255).toInt32)) hx hb dX11_feed_59 rfl ?_
    obtain ⟨Sv, eSv⟩ : ∃ z : Int32, z = ((((m_3.toUInt64 >>> ((32 : Int32).toInt64.toUInt64 &&& Int64.toUInt64 63)).toInt64) &&& 255).toInt32) := ⟨_, rfl⟩
    refine relit (v := Sv) eSv.symm ?_
    refine lv_istore (lv' := [(10, .int Sv), (8, .long m_3), (7, .int 19), (0, .ref h1), (1, .long m_1), (3, .long m_2), (5, .long m_3)]) hx hb dX11_feed_60 hl (by decide) rfl (fun ls hl => ?_)
    refine lv_aload_n hx hb dX11_feed_62 rfl (lv_at hl 3 rfl) ?_
    refine xget F hP 0 rfl rfl inX11 1 (by decide) tb1183 rfl dX11_feed_63 ?_
    refine lv_sipush (v := 1000) hx hb dX11_feed_66 (by decide) ?_
    refine lv_icmp_ge (tgt := 114) hx hb dX11_feed_69 (by decide) (fun c_ => absurd c_ (show ¬ (nI 1000 ≤ nI n) by rw [nI_leI (by omega) (by omega)]; omega)) (fun _ => ?_)
    refine lv_iload hx hb dX11_feed_72 (lv_at hl 0 rfl) ?_
    refine lv_bipush (v := 10) hx hb dX11_feed_74 (by decide) ?_
    refine lv_icmp_eq (tgt := 93) hx hb dX11_feed_76 (by decide) (fun c37 => ?_) (fun c37 => ?_)
    · refine lv_aload_n hx hb dX11_feed_93 rfl (lv_at hl 3 rfl) ?_
      refine xget F hP 0 rfl rfl inX11 2 (by decide) tb1184 rfl dX11_feed_94 ?_
      refine lv_aload_n hx hb dX11_feed_97 rfl (lv_at hl 3 rfl) ?_
      refine xget F hP 0 rfl rfl inX11 1 (by decide) tb1183 rfl dX11_feed_98 ?_
      refine lv_iload hx hb dX11_feed_101 (lv_at hl 0 rfl) ?_
      refine xistE F hP hD hS 1 rfl n (nI_pos (by omega)) (nI_clamp (by omega)) (by omega) dX11_feed_103 (fun f_38 H locs hP hD hS => ?_)
      have hP : va_P g vwCl [(h1, .inr (11, [.int 0, .int (nI n), .ref h2, x3, x4, x5, x6, x7, x8, x9, x10, x11, x12, x13, x14, x15, x16, x17, x18, x19, x20, x21, x22, x23, x24, x25, x26, x27, x28, x29, x30, x31, x32, x33, x34, x35, x36, x37, x38, x39, x40, x41, x42, x43, x44, x45, x46, x47, x48, x49, x50, x51, x52, x53, x54, x55, x56, x57, x58, x59, x60, x61, x62, x63, x64, x65, x66, x67, x68, x69, x70, x71, x72, x73])), (h2, .inl (aC 0, 1000, .inl f_38))] H := hP
      have hD : va_D A [(h1, .inr (11, [.int 0, .int (nI n), .ref h2, x3, x4, x5, x6, x7, x8, x9, x10, x11, x12, x13, x14, x15, x16, x17, x18, x19, x20, x21, x22, x23, x24, x25, x26, x27, x28, x29, x30, x31, x32, x33, x34, x35, x36, x37, x38, x39, x40, x41, x42, x43, x44, x45, x46, x47, x48, x49, x50, x51, x52, x53, x54, x55, x56, x57, x58, x59, x60, x61, x62, x63, x64, x65, x66, x67, x68, x69, x70, x71, x72, x73])), (h2, .inl (aC 0, 1000, .inl f_38))] := hD
      refine lv_aload_n hx hb dX11_feed_104 rfl (lv_at hl 3 rfl) ?_
      refine lv_dup hx hb dX11_feed_105 rfl ?_
      refine xget F hP 0 rfl rfl inX11 1 (by decide) tb1183 rfl dX11_feed_106 ?_
      refine lv_iconst (v := 1) hx hb dX11_feed_109 (by decide) ?_
      refine lv_iadd hx hb dX11_feed_110 ?_
      refine relit (v := (nI (n + 1))) (nadd (a := n) (b := 1) (by omega)) ?_
      refine xput F hP hD hS 0 rfl rfl inX11 tyX11_ok nmX11 1 (by decide) tb1183 rfl rfl rfl (Nat.le_of_ble_eq_true rfl) dX11_feed_111 (fun H locs hP hD hS => ?_)
      have hP : va_P g vwCl [(h1, .inr (11, [.int 0, .int (nI (n + 1)), .ref h2, x3, x4, x5, x6, x7, x8, x9, x10, x11, x12, x13, x14, x15, x16, x17, x18, x19, x20, x21, x22, x23, x24, x25, x26, x27, x28, x29, x30, x31, x32, x33, x34, x35, x36, x37, x38, x39, x40, x41, x42, x43, x44, x45, x46, x47, x48, x49, x50, x51, x52, x53, x54, x55, x56, x57, x58, x59, x60, x61, x62, x63, x64, x65, x66, x67, x68, x69, x70, x71, x72, x73])), (h2, .inl (aC 0, 1000, .inl f_38))] H := hP
      have hD : va_D A [(h1, .inr (11, [.int 0, .int (nI (n + 1)), .ref h2, x3, x4, x5, x6, x7, x8, x9, x10, x11, x12, x13, x14, x15, x16, x17, x18, x19, x20, x21, x22, x23, x24, x25, x26, x27, x28, x29, x30, x31, x32, x33, x34, x35, x36, x37, x38, x39, x40, x41, x42, x43, x44, x45, x46, x47, x48, x49, x50, x51, x52, x53, x54, x55, x56, x57, x58, x59, x60, x61, x62, x63, x64, x65, x66, x67, x68, x69, x70, x71, x72, x73])), (h2, .inl (aC 0, 1000, .inl f_38))] := hD
      refine lv_iinc (v := 20) (lv' := [(7, .int 20), (10, .int Sv), (8, .long m_3), (0, .ref h1), (1, .long m_1), (3, .long m_2), (5, .long m_3)]) hx hb dX11_feed_114 hl (k := 2) rfl (by decide +kernel) (by decide) rfl (fun ls hl => ?_)
      refine lv_goto (tgt := 8) hx hb dX11_feed_117 (by decide) ?_
      exact hc20 (n + 1) f_38 _ _ _ (f8_up 3 hn eSv (okb_eq c37)) (by omega) (hP.sub [0, 1] rfl) (hD.sub [0, 1] (by decide) rfl) hS (lv_sub hl [0, 3, 4, 5, 6] rfl)
    · refine lv_iload hx hb dX11_feed_79 (lv_at hl 0 rfl) ?_
      refine lv_bipush (v := 32) hx hb dX11_feed_81 (by decide) ?_
      refine lv_icmp_lt (tgt := 114) hx hb dX11_feed_83 (by decide) (fun c39 => ?_) (fun c39 => ?_)
      · refine lv_iinc (v := 20) (lv' := [(7, .int 20), (10, .int Sv), (8, .long m_3), (0, .ref h1), (1, .long m_1), (3, .long m_2), (5, .long m_3)]) hx hb dX11_feed_114 hl (k := 2) rfl (by decide +kernel) (by decide) rfl (fun ls hl => ?_)
        refine lv_goto (tgt := 8) hx hb dX11_feed_117 (by decide) ?_
        exact hc20 (n) f _ _ _ (f8_st 3 hn eSv (okb_lo c37 c39)) (by omega) (hP.sub [0, 1] rfl) (hD.sub [0, 1] (by decide) rfl) hS (lv_sub hl [0, 3, 4, 5, 6] rfl)
      · refine lv_iload hx hb dX11_feed_86 (lv_at hl 0 rfl) ?_
        refine lv_bipush (v := 126) hx hb dX11_feed_88 (by decide) ?_
        refine lv_icmp_gt (tgt := 114) hx hb dX11_feed_90 (by decide) (fun c40 => ?_) (fun c40 => ?_)
        · refine lv_iinc (v := 20) (lv' := [(7, .int 20), (10, .int Sv), (8, .long m_3), (0, .ref h1), (1, .long m_1), (3, .long m_2), (5, .long m_3)]) hx hb dX11_feed_114 hl (k := 2) rfl (by decide +kernel) (by decide) rfl (fun ls hl => ?_)
          refine lv_goto (tgt := 8) hx hb dX11_feed_117 (by decide) ?_
          exact hc20 (n) f _ _ _ (f8_st 3 hn eSv (okb_hi c37 c40)) (by omega) (hP.sub [0, 1] rfl) (hD.sub [0, 1] (by decide) rfl) hS (lv_sub hl [0, 3, 4, 5, 6] rfl)
        · refine lv_aload_n hx hb dX11_feed_93 rfl (lv_at hl 3 rfl) ?_
          refine xget F hP 0 rfl rfl inX11 2 (by decide) tb1184 rfl dX11_feed_94 ?_
          refine lv_aload_n hx hb dX11_feed_97 rfl (lv_at hl 3 rfl) ?_
          refine xget F hP 0 rfl rfl inX11 1 (by decide) tb1183 rfl dX11_feed_98 ?_
          refine lv_iload hx hb dX11_feed_101 (lv_at hl 0 rfl) ?_
          refine xistE F hP hD hS 1 rfl n (nI_pos (by omega)) (nI_clamp (by omega)) (by omega) dX11_feed_103 (fun f_41 H locs hP hD hS => ?_)
          have hP : va_P g vwCl [(h1, .inr (11, [.int 0, .int (nI n), .ref h2, x3, x4, x5, x6, x7, x8, x9, x10, x11, x12, x13, x14, x15, x16, x17, x18, x19, x20, x21, x22, x23, x24, x25, x26, x27, x28, x29, x30, x31, x32, x33, x34, x35, x36, x37, x38, x39, x40, x41, x42, x43, x44, x45, x46, x47, x48, x49, x50, x51, x52, x53, x54, x55, x56, x57, x58, x59, x60, x61, x62, x63, x64, x65, x66, x67, x68, x69, x70, x71, x72, x73])), (h2, .inl (aC 0, 1000, .inl f_41))] H := hP
          have hD : va_D A [(h1, .inr (11, [.int 0, .int (nI n), .ref h2, x3, x4, x5, x6, x7, x8, x9, x10, x11, x12, x13, x14, x15, x16, x17, x18, x19, x20, x21, x22, x23, x24, x25, x26, x27, x28, x29, x30, x31, x32, x33, x34, x35, x36, x37, x38, x39, x40, x41, x42, x43, x44, x45, x46, x47, x48, x49, x50, x51, x52, x53, x54, x55, x56, x57, x58, x59, x60, x61, x62, x63, x64, x65, x66, x67, x68, x69, x70, x71, x72, x73])), (h2, .inl (aC 0, 1000, .inl f_41))] := hD
          refine lv_aload_n hx hb dX11_feed_104 rfl (lv_at hl 3 rfl) ?_
          refine lv_dup hx hb dX11_feed_105 rfl ?_
          refine xget F hP 0 rfl rfl inX11 1 (by decide) tb1183 rfl dX11_feed_106 ?_
          refine lv_iconst (v := 1) hx hb dX11_feed_109 (by decide) ?_
          refine lv_iadd hx hb dX11_feed_110 ?_
          refine relit (v := (nI (n + 1))) (nadd (a := n) (b := 1) (by omega)) ?_
          refine xput F hP hD hS 0 rfl rfl inX11 tyX11_ok nmX11 1 (by decide) tb1183 rfl rfl rfl (Nat.le_of_ble_eq_true rfl) dX11_feed_111 (fun H locs hP hD hS => ?_)
          have hP : va_P g vwCl [(h1, .inr (11, [.int 0, .int (nI (n + 1)), .ref h2, x3, x4, x5, x6, x7, x8, x9, x10, x11, x12, x13, x14, x15, x16, x17, x18, x19, x20, x21, x22, x23, x24, x25, x26, x27, x28, x29, x30, x31, x32, x33, x34, x35, x36, x37, x38, x39, x40, x41, x42, x43, x44, x45, x46, x47, x48, x49, x50, x51, x52, x53, x54, x55, x56, x57, x58, x59, x60, x61, x62, x63, x64, x65, x66, x67, x68, x69, x70, x71, x72, x73])), (h2, .inl (aC 0, 1000, .inl f_41))] H := hP
          have hD : va_D A [(h1, .inr (11, [.int 0, .int (nI (n + 1)), .ref h2, x3, x4, x5, x6, x7, x8, x9, x10, x11, x12, x13, x14, x15, x16, x17, x18, x19, x20, x21, x22, x23, x24, x25, x26, x27, x28, x29, x30, x31, x32, x33, x34, x35, x36, x37, x38, x39, x40, x41, x42, x43, x44, x45, x46, x47, x48, x49, x50, x51, x52, x53, x54, x55, x56, x57, x58, x59, x60, x61, x62, x63, x64, x65, x66, x67, x68, x69, x70, x71, x72, x73])), (h2, .inl (aC 0, 1000, .inl f_41))] := hD
          refine lv_iinc (v := 20) (lv' := [(7, .int 20), (10, .int Sv), (8, .long m_3), (0, .ref h1), (1, .long m_1), (3, .long m_2), (5, .long m_3)]) hx hb dX11_feed_114 hl (k := 2) rfl (by decide +kernel) (by decide) rfl (fun ls hl => ?_)
          refine lv_goto (tgt := 8) hx hb dX11_feed_117 (by decide) ?_
          exact hc20 (n + 1) f_41 _ _ _ (f8_up 3 hn eSv (okb_in c39 c40)) (by omega) (hP.sub [0, 1] rfl) (hD.sub [0, 1] (by decide) rfl) hS (lv_sub hl [0, 3, 4, 5, 6] rfl)
  have hc18 : ∀ (n : Nat) (f : Nat → Int32) (H : Heap) (locs : List Loc) (ls : Array Slot), n = ((0 + f8 m_1 8) + f8 m_2 8) + f8 m_3 2 → n ≤ 18 → va_P g vwCl [(h1, .inr (11, [.int 0, .int (nI n), .ref h2, x3, x4, x5, x6, x7, x8, x9, x10, x11, x12, x13, x14, x15, x16, x17, x18, x19, x20, x21, x22, x23, x24, x25, x26, x27, x28, x29, x30, x31, x32, x33, x34, x35, x36, x37, x38, x39, x40, x41, x42, x43, x44, x45, x46, x47, x48, x49, x50, x51, x52, x53, x54, x55, x56, x57, x58, x59, x60, x61, x62, x63, x64, x65, x66, x67, x68, x69, x70, x71, x72, x73])), (h2, .inl (aC 0, 1000, .inl f))] H → va_D A [(h1, .inr (11, [.int 0, .int (nI n), .ref h2, x3, x4, x5, x6, x7, x8, x9, x10, x11, x12, x13, x14, x15, x16, x17, x18, x19, x20, x21, x22, x23, x24, x25, x26, x27, x28, x29, x30, x31, x32, x33, x34, x35, x36, x37, x38, x39, x40, x41, x42, x43, x44, x45, x46, x47, x48, x49, x50, x51, x52, x53, x54, x55, x56, x57, x58, x59, x60, x61, x62, x63, x64, x65, x66, x67, x68, x69, x70, x71, x72, x73])), (h2, .inl (aC 0, 1000, .inl f))] → va_S A s.heap H locs → lv_has ls 11 [(7, .int 18), (0, .ref h1), (1, .long m_1), (3, .long m_2), (5, .long m_3)] → W p l e (rmL 1 0 0) s m [.ref h1, .long m_1, .long m_2, .long m_3].toArray below meth c H locs 0 0 (MQ below (QI g (fun (r : Int32) (_ : Unit) => r = (nI (((0 + f8 m_1 8) + f8 m_2 8) + f8 m_3 8))) (fun (_ : Unit) => []) A) [.ref h1, .long m_1, .long m_2, .long m_3].toArray s 0 0 A) (F0 m 8 ls []) := by
    intro n f H locs ls hn hb_ hP hD hS hl
    refine lv_iload hx hb dX11_feed_8 (lv_at hl 0 rfl) ?_
    refine lv_bipush (v := 24) hx hb dX11_feed_10 (by decide) ?_
    refine lv_icmp_ge (tgt := 120) hx hb dX11_feed_12 (by decide) (fun c_ => absurd c_ (by decide +kernel)) (fun _ => ?_)
    refine lv_iload hx hb dX11_feed_15 (lv_at hl 0 rfl) ?_
    refine lv_bipush (v := 8) hx hb dX11_feed_17 (by decide) ?_
    refine lv_icmp_ge (tgt := 26) hx hb dX11_feed_19 (by decide) (fun _ => ?_) (fun c_ => absurd (by decide +kernel) c_)
    refine lv_iload hx hb dX11_feed_26 (lv_at hl 0 rfl) ?_
    refine lv_bipush (v := 16) hx hb dX11_feed_28 (by decide) ?_
    refine lv_icmp_ge (tgt := 37) hx hb dX11_feed_30 (by decide) (fun _ => ?_) (fun c_ => absurd (by decide +kernel) c_)
    refine lv_lload hx hb dX11_feed_37 (lv_at hl 4 rfl) ?_
    refine lv_lstore (lv' := [(8, .long m_3), (7, .int 18), (0, .ref h1), (1, .long m_1), (3, .long m_2), (5, .long m_3)]) hx hb dX11_feed_39 hl (by decide) rfl (fun ls hl => ?_)
    refine lv_lload hx hb dX11_feed_41 (lv_at hl 0 rfl) ?_
    refine lv_bipush (v := 56) hx hb dX11_feed_43 (by decide) ?_
    refine lv_bipush (v := 8) hx hb dX11_feed_45 (by decide) ?_
    refine lv_iload hx hb dX11_feed_47 (lv_at hl 1 rfl) ?_
    refine lv_bipush (v := 7) hx hb dX11_feed_49 (by decide) ?_
    refine lv_iand hx hb dX11_feed_51 ?_
    refine relit (v := 2) (by decide +kernel) ?_
    refine lv_imul hx hb dX11_feed_52 ?_
    refine relit (v := 16) (by decide +kernel) ?_
    refine lv_isub hx hb dX11_feed_53 ?_
    refine relit (v := 40) (by decide +kernel) ?_
    refine lv_lushr (v := ((m_3.toUInt64 >>> ((40 : Int32).toInt64.toUInt64 &&& Int64.toUInt64 63)).toInt64)) hx hb dX11_feed_54 rfl ?_
    refine lv_ldc2 (v := 255) hx hb hown (hts _ tb1414) dX11_feed_55 ?_
    refine lv_land hx hb dX11_feed_58 ?_
    refine lv_l2i (v := ((((m_3.toUInt64 >>> ((40 : Int32).toInt64.toUInt64 &&& Int64.toUInt64 63)).toInt64) &&& 255).toInt32)) hx hb dX11_feed_59 rfl ?_
    obtain ⟨Sv, eSv⟩ : ∃ z : Int32, z = ((((m_3.toUInt64 >>> ((40 : Int32).toInt64.toUInt64 &&& Int64.toUInt64 63)).toInt64) &&& 255).toInt32) := ⟨_, rfl⟩
    refine relit (v := Sv) eSv.symm ?_
    refine lv_istore (lv' := [(10, .int Sv), (8, .long m_3), (7, .int 18), (0, .ref h1), (1, .long m_1), (3, .long m_2), (5, .long m_3)]) hx hb dX11_feed_60 hl (by decide) rfl (fun ls hl => ?_)
    refine lv_aload_n hx hb dX11_feed_62 rfl (lv_at hl 3 rfl) ?_
    refine xget F hP 0 rfl rfl inX11 1 (by decide) tb1183 rfl dX11_feed_63 ?_
    refine lv_sipush (v := 1000) hx hb dX11_feed_66 (by decide) ?_
    refine lv_icmp_ge (tgt := 114) hx hb dX11_feed_69 (by decide) (fun c_ => absurd c_ (show ¬ (nI 1000 ≤ nI n) by rw [nI_leI (by omega) (by omega)]; omega)) (fun _ => ?_)
    refine lv_iload hx hb dX11_feed_72 (lv_at hl 0 rfl) ?_
    refine lv_bipush (v := 10) hx hb dX11_feed_74 (by decide) ?_
    refine lv_icmp_eq (tgt := 93) hx hb dX11_feed_76 (by decide) (fun c45 => ?_) (fun c45 => ?_)
    · refine lv_aload_n hx hb dX11_feed_93 rfl (lv_at hl 3 rfl) ?_
      refine xget F hP 0 rfl rfl inX11 2 (by decide) tb1184 rfl dX11_feed_94 ?_
      refine lv_aload_n hx hb dX11_feed_97 rfl (lv_at hl 3 rfl) ?_
      refine xget F hP 0 rfl rfl inX11 1 (by decide) tb1183 rfl dX11_feed_98 ?_
      refine lv_iload hx hb dX11_feed_101 (lv_at hl 0 rfl) ?_
      refine xistE F hP hD hS 1 rfl n (nI_pos (by omega)) (nI_clamp (by omega)) (by omega) dX11_feed_103 (fun f_46 H locs hP hD hS => ?_)
      have hP : va_P g vwCl [(h1, .inr (11, [.int 0, .int (nI n), .ref h2, x3, x4, x5, x6, x7, x8, x9, x10, x11, x12, x13, x14, x15, x16, x17, x18, x19, x20, x21, x22, x23, x24, x25, x26, x27, x28, x29, x30, x31, x32, x33, x34, x35, x36, x37, x38, x39, x40, x41, x42, x43, x44, x45, x46, x47, x48, x49, x50, x51, x52, x53, x54, x55, x56, x57, x58, x59, x60, x61, x62, x63, x64, x65, x66, x67, x68, x69, x70, x71, x72, x73])), (h2, .inl (aC 0, 1000, .inl f_46))] H := hP
      have hD : va_D A [(h1, .inr (11, [.int 0, .int (nI n), .ref h2, x3, x4, x5, x6, x7, x8, x9, x10, x11, x12, x13, x14, x15, x16, x17, x18, x19, x20, x21, x22, x23, x24, x25, x26, x27, x28, x29, x30, x31, x32, x33, x34, x35, x36, x37, x38, x39, x40, x41, x42, x43, x44, x45, x46, x47, x48, x49, x50, x51, x52, x53, x54, x55, x56, x57, x58, x59, x60, x61, x62, x63, x64, x65, x66, x67, x68, x69, x70, x71, x72, x73])), (h2, .inl (aC 0, 1000, .inl f_46))] := hD
      refine lv_aload_n hx hb dX11_feed_104 rfl (lv_at hl 3 rfl) ?_
      refine lv_dup hx hb dX11_feed_105 rfl ?_
      refine xget F hP 0 rfl rfl inX11 1 (by decide) tb1183 rfl dX11_feed_106 ?_
      refine lv_iconst (v := 1) hx hb dX11_feed_109 (by decide) ?_
      refine lv_iadd hx hb dX11_feed_110 ?_
      refine relit (v := (nI (n + 1))) (nadd (a := n) (b := 1) (by omega)) ?_
      refine xput F hP hD hS 0 rfl rfl inX11 tyX11_ok nmX11 1 (by decide) tb1183 rfl rfl rfl (Nat.le_of_ble_eq_true rfl) dX11_feed_111 (fun H locs hP hD hS => ?_)
      have hP : va_P g vwCl [(h1, .inr (11, [.int 0, .int (nI (n + 1)), .ref h2, x3, x4, x5, x6, x7, x8, x9, x10, x11, x12, x13, x14, x15, x16, x17, x18, x19, x20, x21, x22, x23, x24, x25, x26, x27, x28, x29, x30, x31, x32, x33, x34, x35, x36, x37, x38, x39, x40, x41, x42, x43, x44, x45, x46, x47, x48, x49, x50, x51, x52, x53, x54, x55, x56, x57, x58, x59, x60, x61, x62, x63, x64, x65, x66, x67, x68, x69, x70, x71, x72, x73])), (h2, .inl (aC 0, 1000, .inl f_46))] H := hP
      have hD : va_D A [(h1, .inr (11, [.int 0, .int (nI (n + 1)), .ref h2, x3, x4, x5, x6, x7, x8, x9, x10, x11, x12, x13, x14, x15, x16, x17, x18, x19, x20, x21, x22, x23, x24, x25, x26, x27, x28, x29, x30, x31, x32, x33, x34, x35, x36, x37, x38, x39, x40, x41, x42, x43, x44, x45, x46, x47, x48, x49, x50, x51, x52, x53, x54, x55, x56, x57, x58, x59, x60, x61, x62, x63, x64, x65, x66, x67, x68, x69, x70, x71, x72, x73])), (h2, .inl (aC 0, 1000, .inl f_46))] := hD
      refine lv_iinc (v := 19) (lv' := [(7, .int 19), (10, .int Sv), (8, .long m_3), (0, .ref h1), (1, .long m_1), (3, .long m_2), (5, .long m_3)]) hx hb dX11_feed_114 hl (k := 2) rfl (by decide +kernel) (by decide) rfl (fun ls hl => ?_)
      refine lv_goto (tgt := 8) hx hb dX11_feed_117 (by decide) ?_
      exact hc19 (n + 1) f_46 _ _ _ (f8_up 2 hn eSv (okb_eq c45)) (by omega) (hP.sub [0, 1] rfl) (hD.sub [0, 1] (by decide) rfl) hS (lv_sub hl [0, 3, 4, 5, 6] rfl)
    · refine lv_iload hx hb dX11_feed_79 (lv_at hl 0 rfl) ?_
      refine lv_bipush (v := 32) hx hb dX11_feed_81 (by decide) ?_
      refine lv_icmp_lt (tgt := 114) hx hb dX11_feed_83 (by decide) (fun c47 => ?_) (fun c47 => ?_)
      · refine lv_iinc (v := 19) (lv' := [(7, .int 19), (10, .int Sv), (8, .long m_3), (0, .ref h1), (1, .long m_1), (3, .long m_2), (5, .long m_3)]) hx hb dX11_feed_114 hl (k := 2) rfl (by decide +kernel) (by decide) rfl (fun ls hl => ?_)
        refine lv_goto (tgt := 8) hx hb dX11_feed_117 (by decide) ?_
        exact hc19 (n) f _ _ _ (f8_st 2 hn eSv (okb_lo c45 c47)) (by omega) (hP.sub [0, 1] rfl) (hD.sub [0, 1] (by decide) rfl) hS (lv_sub hl [0, 3, 4, 5, 6] rfl)
      · refine lv_iload hx hb dX11_feed_86 (lv_at hl 0 rfl) ?_
        refine lv_bipush (v := 126) hx hb dX11_feed_88 (by decide) ?_
        refine lv_icmp_gt (tgt := 114) hx hb dX11_feed_90 (by decide) (fun c48 => ?_) (fun c48 => ?_)
        · refine lv_iinc (v := 19) (lv' := [(7, .int 19), (10, .int Sv), (8, .long m_3), (0, .ref h1), (1, .long m_1), (3, .long m_2), (5, .long m_3)]) hx hb dX11_feed_114 hl (k := 2) rfl (by decide +kernel) (by decide) rfl (fun ls hl => ?_)
          refine lv_goto (tgt := 8) hx hb dX11_feed_117 (by decide) ?_
          exact hc19 (n) f _ _ _ (f8_st 2 hn eSv (okb_hi c45 c48)) (by omega) (hP.sub [0, 1] rfl) (hD.sub [0, 1] (by decide) rfl) hS (lv_sub hl [0, 3, 4, 5, 6] rfl)
        · refine lv_aload_n hx hb dX11_feed_93 rfl (lv_at hl 3 rfl) ?_
          refine xget F hP 0 rfl rfl inX11 2 (by decide) tb1184 rfl dX11_feed_94 ?_
          refine lv_aload_n hx hb dX11_feed_97 rfl (lv_at hl 3 rfl) ?_
          refine xget F hP 0 rfl rfl inX11 1 (by decide) tb1183 rfl dX11_feed_98 ?_
          refine lv_iload hx hb dX11_feed_101 (lv_at hl 0 rfl) ?_
          refine xistE F hP hD hS 1 rfl n (nI_pos (by omega)) (nI_clamp (by omega)) (by omega) dX11_feed_103 (fun f_49 H locs hP hD hS => ?_)
          have hP : va_P g vwCl [(h1, .inr (11, [.int 0, .int (nI n), .ref h2, x3, x4, x5, x6, x7, x8, x9, x10, x11, x12, x13, x14, x15, x16, x17, x18, x19, x20, x21, x22, x23, x24, x25, x26, x27, x28, x29, x30, x31, x32, x33, x34, x35, x36, x37, x38, x39, x40, x41, x42, x43, x44, x45, x46, x47, x48, x49, x50, x51, x52, x53, x54, x55, x56, x57, x58, x59, x60, x61, x62, x63, x64, x65, x66, x67, x68, x69, x70, x71, x72, x73])), (h2, .inl (aC 0, 1000, .inl f_49))] H := hP
          have hD : va_D A [(h1, .inr (11, [.int 0, .int (nI n), .ref h2, x3, x4, x5, x6, x7, x8, x9, x10, x11, x12, x13, x14, x15, x16, x17, x18, x19, x20, x21, x22, x23, x24, x25, x26, x27, x28, x29, x30, x31, x32, x33, x34, x35, x36, x37, x38, x39, x40, x41, x42, x43, x44, x45, x46, x47, x48, x49, x50, x51, x52, x53, x54, x55, x56, x57, x58, x59, x60, x61, x62, x63, x64, x65, x66, x67, x68, x69, x70, x71, x72, x73])), (h2, .inl (aC 0, 1000, .inl f_49))] := hD
          refine lv_aload_n hx hb dX11_feed_104 rfl (lv_at hl 3 rfl) ?_
          refine lv_dup hx hb dX11_feed_105 rfl ?_
          refine xget F hP 0 rfl rfl inX11 1 (by decide) tb1183 rfl dX11_feed_106 ?_
          refine lv_iconst (v := 1) hx hb dX11_feed_109 (by decide) ?_
          refine lv_iadd hx hb dX11_feed_110 ?_
          refine relit (v := (nI (n + 1))) (nadd (a := n) (b := 1) (by omega)) ?_
          refine xput F hP hD hS 0 rfl rfl inX11 tyX11_ok nmX11 1 (by decide) tb1183 rfl rfl rfl (Nat.le_of_ble_eq_true rfl) dX11_feed_111 (fun H locs hP hD hS => ?_)
          have hP : va_P g vwCl [(h1, .inr (11, [.int 0, .int (nI (n + 1)), .ref h2, x3, x4, x5, x6, x7, x8, x9, x10, x11, x12, x13, x14, x15, x16, x17, x18, x19, x20, x21, x22, x23, x24, x25, x26, x27, x28, x29, x30, x31, x32, x33, x34, x35, x36, x37, x38, x39, x40, x41, x42, x43, x44, x45, x46, x47, x48, x49, x50, x51, x52, x53, x54, x55, x56, x57, x58, x59, x60, x61, x62, x63, x64, x65, x66, x67, x68, x69, x70, x71, x72, x73])), (h2, .inl (aC 0, 1000, .inl f_49))] H := hP
          have hD : va_D A [(h1, .inr (11, [.int 0, .int (nI (n + 1)), .ref h2, x3, x4, x5, x6, x7, x8, x9, x10, x11, x12, x13, x14, x15, x16, x17, x18, x19, x20, x21, x22, x23, x24, x25, x26, x27, x28, x29, x30, x31, x32, x33, x34, x35, x36, x37, x38, x39, x40, x41, x42, x43, x44, x45, x46, x47, x48, x49, x50, x51, x52, x53, x54, x55, x56, x57, x58, x59, x60, x61, x62, x63, x64, x65, x66, x67, x68, x69, x70, x71, x72, x73])), (h2, .inl (aC 0, 1000, .inl f_49))] := hD
          refine lv_iinc (v := 19) (lv' := [(7, .int 19), (10, .int Sv), (8, .long m_3), (0, .ref h1), (1, .long m_1), (3, .long m_2), (5, .long m_3)]) hx hb dX11_feed_114 hl (k := 2) rfl (by decide +kernel) (by decide) rfl (fun ls hl => ?_)
          refine lv_goto (tgt := 8) hx hb dX11_feed_117 (by decide) ?_
          exact hc19 (n + 1) f_49 _ _ _ (f8_up 2 hn eSv (okb_in c47 c48)) (by omega) (hP.sub [0, 1] rfl) (hD.sub [0, 1] (by decide) rfl) hS (lv_sub hl [0, 3, 4, 5, 6] rfl)
  have hc17 : ∀ (n : Nat) (f : Nat → Int32) (H : Heap) (locs : List Loc) (ls : Array Slot), n = ((0 + f8 m_1 8) + f8 m_2 8) + f8 m_3 1 → n ≤ 17 → va_P g vwCl [(h1, .inr (11, [.int 0, .int (nI n), .ref h2, x3, x4, x5, x6, x7, x8, x9, x10, x11, x12, x13, x14, x15, x16, x17, x18, x19, x20, x21, x22, x23, x24, x25, x26, x27, x28, x29, x30, x31, x32, x33, x34, x35, x36, x37, x38, x39, x40, x41, x42, x43, x44, x45, x46, x47, x48, x49, x50, x51, x52, x53, x54, x55, x56, x57, x58, x59, x60, x61, x62, x63, x64, x65, x66, x67, x68, x69, x70, x71, x72, x73])), (h2, .inl (aC 0, 1000, .inl f))] H → va_D A [(h1, .inr (11, [.int 0, .int (nI n), .ref h2, x3, x4, x5, x6, x7, x8, x9, x10, x11, x12, x13, x14, x15, x16, x17, x18, x19, x20, x21, x22, x23, x24, x25, x26, x27, x28, x29, x30, x31, x32, x33, x34, x35, x36, x37, x38, x39, x40, x41, x42, x43, x44, x45, x46, x47, x48, x49, x50, x51, x52, x53, x54, x55, x56, x57, x58, x59, x60, x61, x62, x63, x64, x65, x66, x67, x68, x69, x70, x71, x72, x73])), (h2, .inl (aC 0, 1000, .inl f))] → va_S A s.heap H locs → lv_has ls 11 [(7, .int 17), (0, .ref h1), (1, .long m_1), (3, .long m_2), (5, .long m_3)] → W p l e (rmL 1 0 0) s m [.ref h1, .long m_1, .long m_2, .long m_3].toArray below meth c H locs 0 0 (MQ below (QI g (fun (r : Int32) (_ : Unit) => r = (nI (((0 + f8 m_1 8) + f8 m_2 8) + f8 m_3 8))) (fun (_ : Unit) => []) A) [.ref h1, .long m_1, .long m_2, .long m_3].toArray s 0 0 A) (F0 m 8 ls []) := by
    intro n f H locs ls hn hb_ hP hD hS hl
    refine lv_iload hx hb dX11_feed_8 (lv_at hl 0 rfl) ?_
    refine lv_bipush (v := 24) hx hb dX11_feed_10 (by decide) ?_
    refine lv_icmp_ge (tgt := 120) hx hb dX11_feed_12 (by decide) (fun c_ => absurd c_ (by decide +kernel)) (fun _ => ?_)
    refine lv_iload hx hb dX11_feed_15 (lv_at hl 0 rfl) ?_
    refine lv_bipush (v := 8) hx hb dX11_feed_17 (by decide) ?_
    refine lv_icmp_ge (tgt := 26) hx hb dX11_feed_19 (by decide) (fun _ => ?_) (fun c_ => absurd (by decide +kernel) c_)
    refine lv_iload hx hb dX11_feed_26 (lv_at hl 0 rfl) ?_
    refine lv_bipush (v := 16) hx hb dX11_feed_28 (by decide) ?_
    refine lv_icmp_ge (tgt := 37) hx hb dX11_feed_30 (by decide) (fun _ => ?_) (fun c_ => absurd (by decide +kernel) c_)
    refine lv_lload hx hb dX11_feed_37 (lv_at hl 4 rfl) ?_
    refine lv_lstore (lv' := [(8, .long m_3), (7, .int 17), (0, .ref h1), (1, .long m_1), (3, .long m_2), (5, .long m_3)]) hx hb dX11_feed_39 hl (by decide) rfl (fun ls hl => ?_)
    refine lv_lload hx hb dX11_feed_41 (lv_at hl 0 rfl) ?_
    refine lv_bipush (v := 56) hx hb dX11_feed_43 (by decide) ?_
    refine lv_bipush (v := 8) hx hb dX11_feed_45 (by decide) ?_
    refine lv_iload hx hb dX11_feed_47 (lv_at hl 1 rfl) ?_
    refine lv_bipush (v := 7) hx hb dX11_feed_49 (by decide) ?_
    refine lv_iand hx hb dX11_feed_51 ?_
    refine relit (v := 1) (by decide +kernel) ?_
    refine lv_imul hx hb dX11_feed_52 ?_
    refine relit (v := 8) (by decide +kernel) ?_
    refine lv_isub hx hb dX11_feed_53 ?_
    refine relit (v := 48) (by decide +kernel) ?_
    refine lv_lushr (v := ((m_3.toUInt64 >>> ((48 : Int32).toInt64.toUInt64 &&& Int64.toUInt64 63)).toInt64)) hx hb dX11_feed_54 rfl ?_
    refine lv_ldc2 (v := 255) hx hb hown (hts _ tb1414) dX11_feed_55 ?_
    refine lv_land hx hb dX11_feed_58 ?_
    refine lv_l2i (v := ((((m_3.toUInt64 >>> ((48 : Int32).toInt64.toUInt64 &&& Int64.toUInt64 63)).toInt64) &&& 255).toInt32)) hx hb dX11_feed_59 rfl ?_
    obtain ⟨Sv, eSv⟩ : ∃ z : Int32, z = ((((m_3.toUInt64 >>> ((48 : Int32).toInt64.toUInt64 &&& Int64.toUInt64 63)).toInt64) &&& 255).toInt32) := ⟨_, rfl⟩
    refine relit (v := Sv) eSv.symm ?_
    refine lv_istore (lv' := [(10, .int Sv), (8, .long m_3), (7, .int 17), (0, .ref h1), (1, .long m_1), (3, .long m_2), (5, .long m_3)]) hx hb dX11_feed_60 hl (by decide) rfl (fun ls hl => ?_)
    refine lv_aload_n hx hb dX11_feed_62 rfl (lv_at hl 3 rfl) ?_
    refine xget F hP 0 rfl rfl inX11 1 (by decide) tb1183 rfl dX11_feed_63 ?_
    refine lv_sipush (v := 1000) hx hb dX11_feed_66 (by decide) ?_
    refine lv_icmp_ge (tgt := 114) hx hb dX11_feed_69 (by decide) (fun c_ => absurd c_ (show ¬ (nI 1000 ≤ nI n) by rw [nI_leI (by omega) (by omega)]; omega)) (fun _ => ?_)
    refine lv_iload hx hb dX11_feed_72 (lv_at hl 0 rfl) ?_
    refine lv_bipush (v := 10) hx hb dX11_feed_74 (by decide) ?_
    refine lv_icmp_eq (tgt := 93) hx hb dX11_feed_76 (by decide) (fun c53 => ?_) (fun c53 => ?_)
    · refine lv_aload_n hx hb dX11_feed_93 rfl (lv_at hl 3 rfl) ?_
      refine xget F hP 0 rfl rfl inX11 2 (by decide) tb1184 rfl dX11_feed_94 ?_
      refine lv_aload_n hx hb dX11_feed_97 rfl (lv_at hl 3 rfl) ?_
      refine xget F hP 0 rfl rfl inX11 1 (by decide) tb1183 rfl dX11_feed_98 ?_
      refine lv_iload hx hb dX11_feed_101 (lv_at hl 0 rfl) ?_
      refine xistE F hP hD hS 1 rfl n (nI_pos (by omega)) (nI_clamp (by omega)) (by omega) dX11_feed_103 (fun f_54 H locs hP hD hS => ?_)
      have hP : va_P g vwCl [(h1, .inr (11, [.int 0, .int (nI n), .ref h2, x3, x4, x5, x6, x7, x8, x9, x10, x11, x12, x13, x14, x15, x16, x17, x18, x19, x20, x21, x22, x23, x24, x25, x26, x27, x28, x29, x30, x31, x32, x33, x34, x35, x36, x37, x38, x39, x40, x41, x42, x43, x44, x45, x46, x47, x48, x49, x50, x51, x52, x53, x54, x55, x56, x57, x58, x59, x60, x61, x62, x63, x64, x65, x66, x67, x68, x69, x70, x71, x72, x73])), (h2, .inl (aC 0, 1000, .inl f_54))] H := hP
      have hD : va_D A [(h1, .inr (11, [.int 0, .int (nI n), .ref h2, x3, x4, x5, x6, x7, x8, x9, x10, x11, x12, x13, x14, x15, x16, x17, x18, x19, x20, x21, x22, x23, x24, x25, x26, x27, x28, x29, x30, x31, x32, x33, x34, x35, x36, x37, x38, x39, x40, x41, x42, x43, x44, x45, x46, x47, x48, x49, x50, x51, x52, x53, x54, x55, x56, x57, x58, x59, x60, x61, x62, x63, x64, x65, x66, x67, x68, x69, x70, x71, x72, x73])), (h2, .inl (aC 0, 1000, .inl f_54))] := hD
      refine lv_aload_n hx hb dX11_feed_104 rfl (lv_at hl 3 rfl) ?_
      refine lv_dup hx hb dX11_feed_105 rfl ?_
      refine xget F hP 0 rfl rfl inX11 1 (by decide) tb1183 rfl dX11_feed_106 ?_
      refine lv_iconst (v := 1) hx hb dX11_feed_109 (by decide) ?_
      refine lv_iadd hx hb dX11_feed_110 ?_
      refine relit (v := (nI (n + 1))) (nadd (a := n) (b := 1) (by omega)) ?_
      refine xput F hP hD hS 0 rfl rfl inX11 tyX11_ok nmX11 1 (by decide) tb1183 rfl rfl rfl (Nat.le_of_ble_eq_true rfl) dX11_feed_111 (fun H locs hP hD hS => ?_)
      have hP : va_P g vwCl [(h1, .inr (11, [.int 0, .int (nI (n + 1)), .ref h2, x3, x4, x5, x6, x7, x8, x9, x10, x11, x12, x13, x14, x15, x16, x17, x18, x19, x20, x21, x22, x23, x24, x25, x26, x27, x28, x29, x30, x31, x32, x33, x34, x35, x36, x37, x38, x39, x40, x41, x42, x43, x44, x45, x46, x47, x48, x49, x50, x51, x52, x53, x54, x55, x56, x57, x58, x59, x60, x61, x62, x63, x64, x65, x66, x67, x68, x69, x70, x71, x72, x73])), (h2, .inl (aC 0, 1000, .inl f_54))] H := hP
      have hD : va_D A [(h1, .inr (11, [.int 0, .int (nI (n + 1)), .ref h2, x3, x4, x5, x6, x7, x8, x9, x10, x11, x12, x13, x14, x15, x16, x17, x18, x19, x20, x21, x22, x23, x24, x25, x26, x27, x28, x29, x30, x31, x32, x33, x34, x35, x36, x37, x38, x39, x40, x41, x42, x43, x44, x45, x46, x47, x48, x49, x50, x51, x52, x53, x54, x55, x56, x57, x58, x59, x60, x61, x62, x63, x64, x65, x66, x67, x68, x69, x70, x71, x72, x73])), (h2, .inl (aC 0, 1000, .inl f_54))] := hD
      refine lv_iinc (v := 18) (lv' := [(7, .int 18), (10, .int Sv), (8, .long m_3), (0, .ref h1), (1, .long m_1), (3, .long m_2), (5, .long m_3)]) hx hb dX11_feed_114 hl (k := 2) rfl (by decide +kernel) (by decide) rfl (fun ls hl => ?_)
      refine lv_goto (tgt := 8) hx hb dX11_feed_117 (by decide) ?_
      exact hc18 (n + 1) f_54 _ _ _ (f8_up 1 hn eSv (okb_eq c53)) (by omega) (hP.sub [0, 1] rfl) (hD.sub [0, 1] (by decide) rfl) hS (lv_sub hl [0, 3, 4, 5, 6] rfl)
    · refine lv_iload hx hb dX11_feed_79 (lv_at hl 0 rfl) ?_
      refine lv_bipush (v := 32) hx hb dX11_feed_81 (by decide) ?_
      refine lv_icmp_lt (tgt := 114) hx hb dX11_feed_83 (by decide) (fun c55 => ?_) (fun c55 => ?_)
      · refine lv_iinc (v := 18) (lv' := [(7, .int 18), (10, .int Sv), (8, .long m_3), (0, .ref h1), (1, .long m_1), (3, .long m_2), (5, .long m_3)]) hx hb dX11_feed_114 hl (k := 2) rfl (by decide +kernel) (by decide) rfl (fun ls hl => ?_)
        refine lv_goto (tgt := 8) hx hb dX11_feed_117 (by decide) ?_
        exact hc18 (n) f _ _ _ (f8_st 1 hn eSv (okb_lo c53 c55)) (by omega) (hP.sub [0, 1] rfl) (hD.sub [0, 1] (by decide) rfl) hS (lv_sub hl [0, 3, 4, 5, 6] rfl)
      · refine lv_iload hx hb dX11_feed_86 (lv_at hl 0 rfl) ?_
        refine lv_bipush (v := 126) hx hb dX11_feed_88 (by decide) ?_
        refine lv_icmp_gt (tgt := 114) hx hb dX11_feed_90 (by decide) (fun c56 => ?_) (fun c56 => ?_)
        · refine lv_iinc (v := 18) (lv' := [(7, .int 18), (10, .int Sv), (8, .long m_3), (0, .ref h1), (1, .long m_1), (3, .long m_2), (5, .long m_3)]) hx hb dX11_feed_114 hl (k := 2) rfl (by decide +kernel) (by decide) rfl (fun ls hl => ?_)
          refine lv_goto (tgt := 8) hx hb dX11_feed_117 (by decide) ?_
          exact hc18 (n) f _ _ _ (f8_st 1 hn eSv (okb_hi c53 c56)) (by omega) (hP.sub [0, 1] rfl) (hD.sub [0, 1] (by decide) rfl) hS (lv_sub hl [0, 3, 4, 5, 6] rfl)
        · refine lv_aload_n hx hb dX11_feed_93 rfl (lv_at hl 3 rfl) ?_
          refine xget F hP 0 rfl rfl inX11 2 (by decide) tb1184 rfl dX11_feed_94 ?_
          refine lv_aload_n hx hb dX11_feed_97 rfl (lv_at hl 3 rfl) ?_
          refine xget F hP 0 rfl rfl inX11 1 (by decide) tb1183 rfl dX11_feed_98 ?_
          refine lv_iload hx hb dX11_feed_101 (lv_at hl 0 rfl) ?_
          refine xistE F hP hD hS 1 rfl n (nI_pos (by omega)) (nI_clamp (by omega)) (by omega) dX11_feed_103 (fun f_57 H locs hP hD hS => ?_)
          have hP : va_P g vwCl [(h1, .inr (11, [.int 0, .int (nI n), .ref h2, x3, x4, x5, x6, x7, x8, x9, x10, x11, x12, x13, x14, x15, x16, x17, x18, x19, x20, x21, x22, x23, x24, x25, x26, x27, x28, x29, x30, x31, x32, x33, x34, x35, x36, x37, x38, x39, x40, x41, x42, x43, x44, x45, x46, x47, x48, x49, x50, x51, x52, x53, x54, x55, x56, x57, x58, x59, x60, x61, x62, x63, x64, x65, x66, x67, x68, x69, x70, x71, x72, x73])), (h2, .inl (aC 0, 1000, .inl f_57))] H := hP
          have hD : va_D A [(h1, .inr (11, [.int 0, .int (nI n), .ref h2, x3, x4, x5, x6, x7, x8, x9, x10, x11, x12, x13, x14, x15, x16, x17, x18, x19, x20, x21, x22, x23, x24, x25, x26, x27, x28, x29, x30, x31, x32, x33, x34, x35, x36, x37, x38, x39, x40, x41, x42, x43, x44, x45, x46, x47, x48, x49, x50, x51, x52, x53, x54, x55, x56, x57, x58, x59, x60, x61, x62, x63, x64, x65, x66, x67, x68, x69, x70, x71, x72, x73])), (h2, .inl (aC 0, 1000, .inl f_57))] := hD
          refine lv_aload_n hx hb dX11_feed_104 rfl (lv_at hl 3 rfl) ?_
          refine lv_dup hx hb dX11_feed_105 rfl ?_
          refine xget F hP 0 rfl rfl inX11 1 (by decide) tb1183 rfl dX11_feed_106 ?_
          refine lv_iconst (v := 1) hx hb dX11_feed_109 (by decide) ?_
          refine lv_iadd hx hb dX11_feed_110 ?_
          refine relit (v := (nI (n + 1))) (nadd (a := n) (b := 1) (by omega)) ?_
          refine xput F hP hD hS 0 rfl rfl inX11 tyX11_ok nmX11 1 (by decide) tb1183 rfl rfl rfl (Nat.le_of_ble_eq_true rfl) dX11_feed_111 (fun H locs hP hD hS => ?_)
          have hP : va_P g vwCl [(h1, .inr (11, [.int 0, .int (nI (n + 1)), .ref h2, x3, x4, x5, x6, x7, x8, x9, x10, x11, x12, x13, x14, x15, x16, x17, x18, x19, x20, x21, x22, x23, x24, x25, x26, x27, x28, x29, x30, x31, x32, x33, x34, x35, x36, x37, x38, x39, x40, x41, x42, x43, x44, x45, x46, x47, x48, x49, x50, x51, x52, x53, x54, x55, x56, x57, x58, x59, x60, x61, x62, x63, x64, x65, x66, x67, x68, x69, x70, x71, x72, x73])), (h2, .inl (aC 0, 1000, .inl f_57))] H := hP
          have hD : va_D A [(h1, .inr (11, [.int 0, .int (nI (n + 1)), .ref h2, x3, x4, x5, x6, x7, x8, x9, x10, x11, x12, x13, x14, x15, x16, x17, x18, x19, x20, x21, x22, x23, x24, x25, x26, x27, x28, x29, x30, x31, x32, x33, x34, x35, x36, x37, x38, x39, x40, x41, x42, x43, x44, x45, x46, x47, x48, x49, x50, x51, x52, x53, x54, x55, x56, x57, x58, x59, x60, x61, x62, x63, x64, x65, x66, x67, x68, x69, x70, x71, x72, x73])), (h2, .inl (aC 0, 1000, .inl f_57))] := hD
          refine lv_iinc (v := 18) (lv' := [(7, .int 18), (10, .int Sv), (8, .long m_3), (0, .ref h1), (1, .long m_1), (3, .long m_2), (5, .long m_3)]) hx hb dX11_feed_114 hl (k := 2) rfl (by decide +kernel) (by decide) rfl (fun ls hl => ?_)
          refine lv_goto (tgt := 8) hx hb dX11_feed_117 (by decide) ?_
          exact hc18 (n + 1) f_57 _ _ _ (f8_up 1 hn eSv (okb_in c55 c56)) (by omega) (hP.sub [0, 1] rfl) (hD.sub [0, 1] (by decide) rfl) hS (lv_sub hl [0, 3, 4, 5, 6] rfl)
  have hc16 : ∀ (n : Nat) (f : Nat → Int32) (H : Heap) (locs : List Loc) (ls : Array Slot), n = ((0 + f8 m_1 8) + f8 m_2 8) + f8 m_3 0 → n ≤ 16 → va_P g vwCl [(h1, .inr (11, [.int 0, .int (nI n), .ref h2, x3, x4, x5, x6, x7, x8, x9, x10, x11, x12, x13, x14, x15, x16, x17, x18, x19, x20, x21, x22, x23, x24, x25, x26, x27, x28, x29, x30, x31, x32, x33, x34, x35, x36, x37, x38, x39, x40, x41, x42, x43, x44, x45, x46, x47, x48, x49, x50, x51, x52, x53, x54, x55, x56, x57, x58, x59, x60, x61, x62, x63, x64, x65, x66, x67, x68, x69, x70, x71, x72, x73])), (h2, .inl (aC 0, 1000, .inl f))] H → va_D A [(h1, .inr (11, [.int 0, .int (nI n), .ref h2, x3, x4, x5, x6, x7, x8, x9, x10, x11, x12, x13, x14, x15, x16, x17, x18, x19, x20, x21, x22, x23, x24, x25, x26, x27, x28, x29, x30, x31, x32, x33, x34, x35, x36, x37, x38, x39, x40, x41, x42, x43, x44, x45, x46, x47, x48, x49, x50, x51, x52, x53, x54, x55, x56, x57, x58, x59, x60, x61, x62, x63, x64, x65, x66, x67, x68, x69, x70, x71, x72, x73])), (h2, .inl (aC 0, 1000, .inl f))] → va_S A s.heap H locs → lv_has ls 11 [(7, .int 16), (0, .ref h1), (1, .long m_1), (3, .long m_2), (5, .long m_3)] → W p l e (rmL 1 0 0) s m [.ref h1, .long m_1, .long m_2, .long m_3].toArray below meth c H locs 0 0 (MQ below (QI g (fun (r : Int32) (_ : Unit) => r = (nI (((0 + f8 m_1 8) + f8 m_2 8) + f8 m_3 8))) (fun (_ : Unit) => []) A) [.ref h1, .long m_1, .long m_2, .long m_3].toArray s 0 0 A) (F0 m 8 ls []) := by
    intro n f H locs ls hn hb_ hP hD hS hl
    refine lv_iload hx hb dX11_feed_8 (lv_at hl 0 rfl) ?_
    refine lv_bipush (v := 24) hx hb dX11_feed_10 (by decide) ?_
    refine lv_icmp_ge (tgt := 120) hx hb dX11_feed_12 (by decide) (fun c_ => absurd c_ (by decide +kernel)) (fun _ => ?_)
    refine lv_iload hx hb dX11_feed_15 (lv_at hl 0 rfl) ?_
    refine lv_bipush (v := 8) hx hb dX11_feed_17 (by decide) ?_
    refine lv_icmp_ge (tgt := 26) hx hb dX11_feed_19 (by decide) (fun _ => ?_) (fun c_ => absurd (by decide +kernel) c_)
    refine lv_iload hx hb dX11_feed_26 (lv_at hl 0 rfl) ?_
    refine lv_bipush (v := 16) hx hb dX11_feed_28 (by decide) ?_
    refine lv_icmp_ge (tgt := 37) hx hb dX11_feed_30 (by decide) (fun _ => ?_) (fun c_ => absurd (by decide +kernel) c_)
    refine lv_lload hx hb dX11_feed_37 (lv_at hl 4 rfl) ?_
    refine lv_lstore (lv' := [(8, .long m_3), (7, .int 16), (0, .ref h1), (1, .long m_1), (3, .long m_2), (5, .long m_3)]) hx hb dX11_feed_39 hl (by decide) rfl (fun ls hl => ?_)
    refine lv_lload hx hb dX11_feed_41 (lv_at hl 0 rfl) ?_
    refine lv_bipush (v := 56) hx hb dX11_feed_43 (by decide) ?_
    refine lv_bipush (v := 8) hx hb dX11_feed_45 (by decide) ?_
    refine lv_iload hx hb dX11_feed_47 (lv_at hl 1 rfl) ?_
    refine lv_bipush (v := 7) hx hb dX11_feed_49 (by decide) ?_
    refine lv_iand hx hb dX11_feed_51 ?_
    refine relit (v := 0) (by decide +kernel) ?_
    refine lv_imul hx hb dX11_feed_52 ?_
    refine relit (v := 0) (by decide +kernel) ?_
    refine lv_isub hx hb dX11_feed_53 ?_
    refine relit (v := 56) (by decide +kernel) ?_
    refine lv_lushr (v := ((m_3.toUInt64 >>> ((56 : Int32).toInt64.toUInt64 &&& Int64.toUInt64 63)).toInt64)) hx hb dX11_feed_54 rfl ?_
    refine lv_ldc2 (v := 255) hx hb hown (hts _ tb1414) dX11_feed_55 ?_
    refine lv_land hx hb dX11_feed_58 ?_
    refine lv_l2i (v := ((((m_3.toUInt64 >>> ((56 : Int32).toInt64.toUInt64 &&& Int64.toUInt64 63)).toInt64) &&& 255).toInt32)) hx hb dX11_feed_59 rfl ?_
    obtain ⟨Sv, eSv⟩ : ∃ z : Int32, z = ((((m_3.toUInt64 >>> ((56 : Int32).toInt64.toUInt64 &&& Int64.toUInt64 63)).toInt64) &&& 255).toInt32) := ⟨_, rfl⟩
    refine relit (v := Sv) eSv.symm ?_
    refine lv_istore (lv' := [(10, .int Sv), (8, .long m_3), (7, .int 16), (0, .ref h1), (1, .long m_1), (3, .long m_2), (5, .long m_3)]) hx hb dX11_feed_60 hl (by decide) rfl (fun ls hl => ?_)
    refine lv_aload_n hx hb dX11_feed_62 rfl (lv_at hl 3 rfl) ?_
    refine xget F hP 0 rfl rfl inX11 1 (by decide) tb1183 rfl dX11_feed_63 ?_
    refine lv_sipush (v := 1000) hx hb dX11_feed_66 (by decide) ?_
    refine lv_icmp_ge (tgt := 114) hx hb dX11_feed_69 (by decide) (fun c_ => absurd c_ (show ¬ (nI 1000 ≤ nI n) by rw [nI_leI (by omega) (by omega)]; omega)) (fun _ => ?_)
    refine lv_iload hx hb dX11_feed_72 (lv_at hl 0 rfl) ?_
    refine lv_bipush (v := 10) hx hb dX11_feed_74 (by decide) ?_
    refine lv_icmp_eq (tgt := 93) hx hb dX11_feed_76 (by decide) (fun c61 => ?_) (fun c61 => ?_)
    · refine lv_aload_n hx hb dX11_feed_93 rfl (lv_at hl 3 rfl) ?_
      refine xget F hP 0 rfl rfl inX11 2 (by decide) tb1184 rfl dX11_feed_94 ?_
      refine lv_aload_n hx hb dX11_feed_97 rfl (lv_at hl 3 rfl) ?_
      refine xget F hP 0 rfl rfl inX11 1 (by decide) tb1183 rfl dX11_feed_98 ?_
      refine lv_iload hx hb dX11_feed_101 (lv_at hl 0 rfl) ?_
      refine xistE F hP hD hS 1 rfl n (nI_pos (by omega)) (nI_clamp (by omega)) (by omega) dX11_feed_103 (fun f_62 H locs hP hD hS => ?_)
      have hP : va_P g vwCl [(h1, .inr (11, [.int 0, .int (nI n), .ref h2, x3, x4, x5, x6, x7, x8, x9, x10, x11, x12, x13, x14, x15, x16, x17, x18, x19, x20, x21, x22, x23, x24, x25, x26, x27, x28, x29, x30, x31, x32, x33, x34, x35, x36, x37, x38, x39, x40, x41, x42, x43, x44, x45, x46, x47, x48, x49, x50, x51, x52, x53, x54, x55, x56, x57, x58, x59, x60, x61, x62, x63, x64, x65, x66, x67, x68, x69, x70, x71, x72, x73])), (h2, .inl (aC 0, 1000, .inl f_62))] H := hP
      have hD : va_D A [(h1, .inr (11, [.int 0, .int (nI n), .ref h2, x3, x4, x5, x6, x7, x8, x9, x10, x11, x12, x13, x14, x15, x16, x17, x18, x19, x20, x21, x22, x23, x24, x25, x26, x27, x28, x29, x30, x31, x32, x33, x34, x35, x36, x37, x38, x39, x40, x41, x42, x43, x44, x45, x46, x47, x48, x49, x50, x51, x52, x53, x54, x55, x56, x57, x58, x59, x60, x61, x62, x63, x64, x65, x66, x67, x68, x69, x70, x71, x72, x73])), (h2, .inl (aC 0, 1000, .inl f_62))] := hD
      refine lv_aload_n hx hb dX11_feed_104 rfl (lv_at hl 3 rfl) ?_
      refine lv_dup hx hb dX11_feed_105 rfl ?_
      refine xget F hP 0 rfl rfl inX11 1 (by decide) tb1183 rfl dX11_feed_106 ?_
      refine lv_iconst (v := 1) hx hb dX11_feed_109 (by decide) ?_
      refine lv_iadd hx hb dX11_feed_110 ?_
      refine relit (v := (nI (n + 1))) (nadd (a := n) (b := 1) (by omega)) ?_
      refine xput F hP hD hS 0 rfl rfl inX11 tyX11_ok nmX11 1 (by decide) tb1183 rfl rfl rfl (Nat.le_of_ble_eq_true rfl) dX11_feed_111 (fun H locs hP hD hS => ?_)
      have hP : va_P g vwCl [(h1, .inr (11, [.int 0, .int (nI (n + 1)), .ref h2, x3, x4, x5, x6, x7, x8, x9, x10, x11, x12, x13, x14, x15, x16, x17, x18, x19, x20, x21, x22, x23, x24, x25, x26, x27, x28, x29, x30, x31, x32, x33, x34, x35, x36, x37, x38, x39, x40, x41, x42, x43, x44, x45, x46, x47, x48, x49, x50, x51, x52, x53, x54, x55, x56, x57, x58, x59, x60, x61, x62, x63, x64, x65, x66, x67, x68, x69, x70, x71, x72, x73])), (h2, .inl (aC 0, 1000, .inl f_62))] H := hP
      have hD : va_D A [(h1, .inr (11, [.int 0, .int (nI (n + 1)), .ref h2, x3, x4, x5, x6, x7, x8, x9, x10, x11, x12, x13, x14, x15, x16, x17, x18, x19, x20, x21, x22, x23, x24, x25, x26, x27, x28, x29, x30, x31, x32, x33, x34, x35, x36, x37, x38, x39, x40, x41, x42, x43, x44, x45, x46, x47, x48, x49, x50, x51, x52, x53, x54, x55, x56, x57, x58, x59, x60, x61, x62, x63, x64, x65, x66, x67, x68, x69, x70, x71, x72, x73])), (h2, .inl (aC 0, 1000, .inl f_62))] := hD
      refine lv_iinc (v := 17) (lv' := [(7, .int 17), (10, .int Sv), (8, .long m_3), (0, .ref h1), (1, .long m_1), (3, .long m_2), (5, .long m_3)]) hx hb dX11_feed_114 hl (k := 2) rfl (by decide +kernel) (by decide) rfl (fun ls hl => ?_)
      refine lv_goto (tgt := 8) hx hb dX11_feed_117 (by decide) ?_
      exact hc17 (n + 1) f_62 _ _ _ (f8_up 0 hn eSv (okb_eq c61)) (by omega) (hP.sub [0, 1] rfl) (hD.sub [0, 1] (by decide) rfl) hS (lv_sub hl [0, 3, 4, 5, 6] rfl)
    · refine lv_iload hx hb dX11_feed_79 (lv_at hl 0 rfl) ?_
      refine lv_bipush (v := 32) hx hb dX11_feed_81 (by decide) ?_
      refine lv_icmp_lt (tgt := 114) hx hb dX11_feed_83 (by decide) (fun c63 => ?_) (fun c63 => ?_)
      · refine lv_iinc (v := 17) (lv' := [(7, .int 17), (10, .int Sv), (8, .long m_3), (0, .ref h1), (1, .long m_1), (3, .long m_2), (5, .long m_3)]) hx hb dX11_feed_114 hl (k := 2) rfl (by decide +kernel) (by decide) rfl (fun ls hl => ?_)
        refine lv_goto (tgt := 8) hx hb dX11_feed_117 (by decide) ?_
        exact hc17 (n) f _ _ _ (f8_st 0 hn eSv (okb_lo c61 c63)) (by omega) (hP.sub [0, 1] rfl) (hD.sub [0, 1] (by decide) rfl) hS (lv_sub hl [0, 3, 4, 5, 6] rfl)
      · refine lv_iload hx hb dX11_feed_86 (lv_at hl 0 rfl) ?_
        refine lv_bipush (v := 126) hx hb dX11_feed_88 (by decide) ?_
        refine lv_icmp_gt (tgt := 114) hx hb dX11_feed_90 (by decide) (fun c64 => ?_) (fun c64 => ?_)
        · refine lv_iinc (v := 17) (lv' := [(7, .int 17), (10, .int Sv), (8, .long m_3), (0, .ref h1), (1, .long m_1), (3, .long m_2), (5, .long m_3)]) hx hb dX11_feed_114 hl (k := 2) rfl (by decide +kernel) (by decide) rfl (fun ls hl => ?_)
          refine lv_goto (tgt := 8) hx hb dX11_feed_117 (by decide) ?_
          exact hc17 (n) f _ _ _ (f8_st 0 hn eSv (okb_hi c61 c64)) (by omega) (hP.sub [0, 1] rfl) (hD.sub [0, 1] (by decide) rfl) hS (lv_sub hl [0, 3, 4, 5, 6] rfl)
        · refine lv_aload_n hx hb dX11_feed_93 rfl (lv_at hl 3 rfl) ?_
          refine xget F hP 0 rfl rfl inX11 2 (by decide) tb1184 rfl dX11_feed_94 ?_
          refine lv_aload_n hx hb dX11_feed_97 rfl (lv_at hl 3 rfl) ?_
          refine xget F hP 0 rfl rfl inX11 1 (by decide) tb1183 rfl dX11_feed_98 ?_
          refine lv_iload hx hb dX11_feed_101 (lv_at hl 0 rfl) ?_
          refine xistE F hP hD hS 1 rfl n (nI_pos (by omega)) (nI_clamp (by omega)) (by omega) dX11_feed_103 (fun f_65 H locs hP hD hS => ?_)
          have hP : va_P g vwCl [(h1, .inr (11, [.int 0, .int (nI n), .ref h2, x3, x4, x5, x6, x7, x8, x9, x10, x11, x12, x13, x14, x15, x16, x17, x18, x19, x20, x21, x22, x23, x24, x25, x26, x27, x28, x29, x30, x31, x32, x33, x34, x35, x36, x37, x38, x39, x40, x41, x42, x43, x44, x45, x46, x47, x48, x49, x50, x51, x52, x53, x54, x55, x56, x57, x58, x59, x60, x61, x62, x63, x64, x65, x66, x67, x68, x69, x70, x71, x72, x73])), (h2, .inl (aC 0, 1000, .inl f_65))] H := hP
          have hD : va_D A [(h1, .inr (11, [.int 0, .int (nI n), .ref h2, x3, x4, x5, x6, x7, x8, x9, x10, x11, x12, x13, x14, x15, x16, x17, x18, x19, x20, x21, x22, x23, x24, x25, x26, x27, x28, x29, x30, x31, x32, x33, x34, x35, x36, x37, x38, x39, x40, x41, x42, x43, x44, x45, x46, x47, x48, x49, x50, x51, x52, x53, x54, x55, x56, x57, x58, x59, x60, x61, x62, x63, x64, x65, x66, x67, x68, x69, x70, x71, x72, x73])), (h2, .inl (aC 0, 1000, .inl f_65))] := hD
          refine lv_aload_n hx hb dX11_feed_104 rfl (lv_at hl 3 rfl) ?_
          refine lv_dup hx hb dX11_feed_105 rfl ?_
          refine xget F hP 0 rfl rfl inX11 1 (by decide) tb1183 rfl dX11_feed_106 ?_
          refine lv_iconst (v := 1) hx hb dX11_feed_109 (by decide) ?_
          refine lv_iadd hx hb dX11_feed_110 ?_
          refine relit (v := (nI (n + 1))) (nadd (a := n) (b := 1) (by omega)) ?_
          refine xput F hP hD hS 0 rfl rfl inX11 tyX11_ok nmX11 1 (by decide) tb1183 rfl rfl rfl (Nat.le_of_ble_eq_true rfl) dX11_feed_111 (fun H locs hP hD hS => ?_)
          have hP : va_P g vwCl [(h1, .inr (11, [.int 0, .int (nI (n + 1)), .ref h2, x3, x4, x5, x6, x7, x8, x9, x10, x11, x12, x13, x14, x15, x16, x17, x18, x19, x20, x21, x22, x23, x24, x25, x26, x27, x28, x29, x30, x31, x32, x33, x34, x35, x36, x37, x38, x39, x40, x41, x42, x43, x44, x45, x46, x47, x48, x49, x50, x51, x52, x53, x54, x55, x56, x57, x58, x59, x60, x61, x62, x63, x64, x65, x66, x67, x68, x69, x70, x71, x72, x73])), (h2, .inl (aC 0, 1000, .inl f_65))] H := hP
          have hD : va_D A [(h1, .inr (11, [.int 0, .int (nI (n + 1)), .ref h2, x3, x4, x5, x6, x7, x8, x9, x10, x11, x12, x13, x14, x15, x16, x17, x18, x19, x20, x21, x22, x23, x24, x25, x26, x27, x28, x29, x30, x31, x32, x33, x34, x35, x36, x37, x38, x39, x40, x41, x42, x43, x44, x45, x46, x47, x48, x49, x50, x51, x52, x53, x54, x55, x56, x57, x58, x59, x60, x61, x62, x63, x64, x65, x66, x67, x68, x69, x70, x71, x72, x73])), (h2, .inl (aC 0, 1000, .inl f_65))] := hD
          refine lv_iinc (v := 17) (lv' := [(7, .int 17), (10, .int Sv), (8, .long m_3), (0, .ref h1), (1, .long m_1), (3, .long m_2), (5, .long m_3)]) hx hb dX11_feed_114 hl (k := 2) rfl (by decide +kernel) (by decide) rfl (fun ls hl => ?_)
          refine lv_goto (tgt := 8) hx hb dX11_feed_117 (by decide) ?_
          exact hc17 (n + 1) f_65 _ _ _ (f8_up 0 hn eSv (okb_in c63 c64)) (by omega) (hP.sub [0, 1] rfl) (hD.sub [0, 1] (by decide) rfl) hS (lv_sub hl [0, 3, 4, 5, 6] rfl)
  have hc15 : ∀ (n : Nat) (f : Nat → Int32) (H : Heap) (locs : List Loc) (ls : Array Slot), n = (0 + f8 m_1 8) + f8 m_2 7 → n ≤ 15 → va_P g vwCl [(h1, .inr (11, [.int 0, .int (nI n), .ref h2, x3, x4, x5, x6, x7, x8, x9, x10, x11, x12, x13, x14, x15, x16, x17, x18, x19, x20, x21, x22, x23, x24, x25, x26, x27, x28, x29, x30, x31, x32, x33, x34, x35, x36, x37, x38, x39, x40, x41, x42, x43, x44, x45, x46, x47, x48, x49, x50, x51, x52, x53, x54, x55, x56, x57, x58, x59, x60, x61, x62, x63, x64, x65, x66, x67, x68, x69, x70, x71, x72, x73])), (h2, .inl (aC 0, 1000, .inl f))] H → va_D A [(h1, .inr (11, [.int 0, .int (nI n), .ref h2, x3, x4, x5, x6, x7, x8, x9, x10, x11, x12, x13, x14, x15, x16, x17, x18, x19, x20, x21, x22, x23, x24, x25, x26, x27, x28, x29, x30, x31, x32, x33, x34, x35, x36, x37, x38, x39, x40, x41, x42, x43, x44, x45, x46, x47, x48, x49, x50, x51, x52, x53, x54, x55, x56, x57, x58, x59, x60, x61, x62, x63, x64, x65, x66, x67, x68, x69, x70, x71, x72, x73])), (h2, .inl (aC 0, 1000, .inl f))] → va_S A s.heap H locs → lv_has ls 11 [(7, .int 15), (0, .ref h1), (1, .long m_1), (3, .long m_2), (5, .long m_3)] → W p l e (rmL 1 0 0) s m [.ref h1, .long m_1, .long m_2, .long m_3].toArray below meth c H locs 0 0 (MQ below (QI g (fun (r : Int32) (_ : Unit) => r = (nI (((0 + f8 m_1 8) + f8 m_2 8) + f8 m_3 8))) (fun (_ : Unit) => []) A) [.ref h1, .long m_1, .long m_2, .long m_3].toArray s 0 0 A) (F0 m 8 ls []) := by
    intro n f H locs ls hn hb_ hP hD hS hl
    refine lv_iload hx hb dX11_feed_8 (lv_at hl 0 rfl) ?_
    refine lv_bipush (v := 24) hx hb dX11_feed_10 (by decide) ?_
    refine lv_icmp_ge (tgt := 120) hx hb dX11_feed_12 (by decide) (fun c_ => absurd c_ (by decide +kernel)) (fun _ => ?_)
    refine lv_iload hx hb dX11_feed_15 (lv_at hl 0 rfl) ?_
    refine lv_bipush (v := 8) hx hb dX11_feed_17 (by decide) ?_
    refine lv_icmp_ge (tgt := 26) hx hb dX11_feed_19 (by decide) (fun _ => ?_) (fun c_ => absurd (by decide +kernel) c_)
    refine lv_iload hx hb dX11_feed_26 (lv_at hl 0 rfl) ?_
    refine lv_bipush (v := 16) hx hb dX11_feed_28 (by decide) ?_
    refine lv_icmp_ge (tgt := 37) hx hb dX11_feed_30 (by decide) (fun c_ => absurd c_ (by decide +kernel)) (fun _ => ?_)
    refine lv_lload_n hx hb dX11_feed_33 rfl (lv_at hl 3 rfl) ?_
    refine lv_goto (tgt := 39) hx hb dX11_feed_34 (by decide) ?_
    refine lv_lstore (lv' := [(8, .long m_2), (7, .int 15), (0, .ref h1), (1, .long m_1), (3, .long m_2), (5, .long m_3)]) hx hb dX11_feed_39 hl (by decide) rfl (fun ls hl => ?_)
    refine lv_lload hx hb dX11_feed_41 (lv_at hl 0 rfl) ?_
    refine lv_bipush (v := 56) hx hb dX11_feed_43 (by decide) ?_
    refine lv_bipush (v := 8) hx hb dX11_feed_45 (by decide) ?_
    refine lv_iload hx hb dX11_feed_47 (lv_at hl 1 rfl) ?_
    refine lv_bipush (v := 7) hx hb dX11_feed_49 (by decide) ?_
    refine lv_iand hx hb dX11_feed_51 ?_
    refine relit (v := 7) (by decide +kernel) ?_
    refine lv_imul hx hb dX11_feed_52 ?_
    refine relit (v := 56) (by decide +kernel) ?_
    refine lv_isub hx hb dX11_feed_53 ?_
    refine relit (v := 0) (by decide +kernel) ?_
    refine lv_lushr (v := ((m_2.toUInt64 >>> ((0 : Int32).toInt64.toUInt64 &&& Int64.toUInt64 63)).toInt64)) hx hb dX11_feed_54 rfl ?_
    refine lv_ldc2 (v := 255) hx hb hown (hts _ tb1414) dX11_feed_55 ?_
    refine lv_land hx hb dX11_feed_58 ?_
    refine lv_l2i (v := ((((m_2.toUInt64 >>> ((0 : Int32).toInt64.toUInt64 &&& Int64.toUInt64 63)).toInt64) &&& 255).toInt32)) hx hb dX11_feed_59 rfl ?_
    obtain ⟨Sv, eSv⟩ : ∃ z : Int32, z = ((((m_2.toUInt64 >>> ((0 : Int32).toInt64.toUInt64 &&& Int64.toUInt64 63)).toInt64) &&& 255).toInt32) := ⟨_, rfl⟩
    refine relit (v := Sv) eSv.symm ?_
    refine lv_istore (lv' := [(10, .int Sv), (8, .long m_2), (7, .int 15), (0, .ref h1), (1, .long m_1), (3, .long m_2), (5, .long m_3)]) hx hb dX11_feed_60 hl (by decide) rfl (fun ls hl => ?_)
    refine lv_aload_n hx hb dX11_feed_62 rfl (lv_at hl 3 rfl) ?_
    refine xget F hP 0 rfl rfl inX11 1 (by decide) tb1183 rfl dX11_feed_63 ?_
    refine lv_sipush (v := 1000) hx hb dX11_feed_66 (by decide) ?_
    refine lv_icmp_ge (tgt := 114) hx hb dX11_feed_69 (by decide) (fun c_ => absurd c_ (show ¬ (nI 1000 ≤ nI n) by rw [nI_leI (by omega) (by omega)]; omega)) (fun _ => ?_)
    refine lv_iload hx hb dX11_feed_72 (lv_at hl 0 rfl) ?_
    refine lv_bipush (v := 10) hx hb dX11_feed_74 (by decide) ?_
    refine lv_icmp_eq (tgt := 93) hx hb dX11_feed_76 (by decide) (fun c69 => ?_) (fun c69 => ?_)
    · refine lv_aload_n hx hb dX11_feed_93 rfl (lv_at hl 3 rfl) ?_
      refine xget F hP 0 rfl rfl inX11 2 (by decide) tb1184 rfl dX11_feed_94 ?_
      refine lv_aload_n hx hb dX11_feed_97 rfl (lv_at hl 3 rfl) ?_
      refine xget F hP 0 rfl rfl inX11 1 (by decide) tb1183 rfl dX11_feed_98 ?_
      refine lv_iload hx hb dX11_feed_101 (lv_at hl 0 rfl) ?_
      refine xistE F hP hD hS 1 rfl n (nI_pos (by omega)) (nI_clamp (by omega)) (by omega) dX11_feed_103 (fun f_70 H locs hP hD hS => ?_)
      have hP : va_P g vwCl [(h1, .inr (11, [.int 0, .int (nI n), .ref h2, x3, x4, x5, x6, x7, x8, x9, x10, x11, x12, x13, x14, x15, x16, x17, x18, x19, x20, x21, x22, x23, x24, x25, x26, x27, x28, x29, x30, x31, x32, x33, x34, x35, x36, x37, x38, x39, x40, x41, x42, x43, x44, x45, x46, x47, x48, x49, x50, x51, x52, x53, x54, x55, x56, x57, x58, x59, x60, x61, x62, x63, x64, x65, x66, x67, x68, x69, x70, x71, x72, x73])), (h2, .inl (aC 0, 1000, .inl f_70))] H := hP
      have hD : va_D A [(h1, .inr (11, [.int 0, .int (nI n), .ref h2, x3, x4, x5, x6, x7, x8, x9, x10, x11, x12, x13, x14, x15, x16, x17, x18, x19, x20, x21, x22, x23, x24, x25, x26, x27, x28, x29, x30, x31, x32, x33, x34, x35, x36, x37, x38, x39, x40, x41, x42, x43, x44, x45, x46, x47, x48, x49, x50, x51, x52, x53, x54, x55, x56, x57, x58, x59, x60, x61, x62, x63, x64, x65, x66, x67, x68, x69, x70, x71, x72, x73])), (h2, .inl (aC 0, 1000, .inl f_70))] := hD
      refine lv_aload_n hx hb dX11_feed_104 rfl (lv_at hl 3 rfl) ?_
      refine lv_dup hx hb dX11_feed_105 rfl ?_
      refine xget F hP 0 rfl rfl inX11 1 (by decide) tb1183 rfl dX11_feed_106 ?_
      refine lv_iconst (v := 1) hx hb dX11_feed_109 (by decide) ?_
      refine lv_iadd hx hb dX11_feed_110 ?_
      refine relit (v := (nI (n + 1))) (nadd (a := n) (b := 1) (by omega)) ?_
      refine xput F hP hD hS 0 rfl rfl inX11 tyX11_ok nmX11 1 (by decide) tb1183 rfl rfl rfl (Nat.le_of_ble_eq_true rfl) dX11_feed_111 (fun H locs hP hD hS => ?_)
      have hP : va_P g vwCl [(h1, .inr (11, [.int 0, .int (nI (n + 1)), .ref h2, x3, x4, x5, x6, x7, x8, x9, x10, x11, x12, x13, x14, x15, x16, x17, x18, x19, x20, x21, x22, x23, x24, x25, x26, x27, x28, x29, x30, x31, x32, x33, x34, x35, x36, x37, x38, x39, x40, x41, x42, x43, x44, x45, x46, x47, x48, x49, x50, x51, x52, x53, x54, x55, x56, x57, x58, x59, x60, x61, x62, x63, x64, x65, x66, x67, x68, x69, x70, x71, x72, x73])), (h2, .inl (aC 0, 1000, .inl f_70))] H := hP
      have hD : va_D A [(h1, .inr (11, [.int 0, .int (nI (n + 1)), .ref h2, x3, x4, x5, x6, x7, x8, x9, x10, x11, x12, x13, x14, x15, x16, x17, x18, x19, x20, x21, x22, x23, x24, x25, x26, x27, x28, x29, x30, x31, x32, x33, x34, x35, x36, x37, x38, x39, x40, x41, x42, x43, x44, x45, x46, x47, x48, x49, x50, x51, x52, x53, x54, x55, x56, x57, x58, x59, x60, x61, x62, x63, x64, x65, x66, x67, x68, x69, x70, x71, x72, x73])), (h2, .inl (aC 0, 1000, .inl f_70))] := hD
      refine lv_iinc (v := 16) (lv' := [(7, .int 16), (10, .int Sv), (8, .long m_2), (0, .ref h1), (1, .long m_1), (3, .long m_2), (5, .long m_3)]) hx hb dX11_feed_114 hl (k := 2) rfl (by decide +kernel) (by decide) rfl (fun ls hl => ?_)
      refine lv_goto (tgt := 8) hx hb dX11_feed_117 (by decide) ?_
      exact hc16 (n + 1) f_70 _ _ _ (f8_up 7 hn eSv (okb_eq c69)) (by omega) (hP.sub [0, 1] rfl) (hD.sub [0, 1] (by decide) rfl) hS (lv_sub hl [0, 3, 4, 5, 6] rfl)
    · refine lv_iload hx hb dX11_feed_79 (lv_at hl 0 rfl) ?_
      refine lv_bipush (v := 32) hx hb dX11_feed_81 (by decide) ?_
      refine lv_icmp_lt (tgt := 114) hx hb dX11_feed_83 (by decide) (fun c71 => ?_) (fun c71 => ?_)
      · refine lv_iinc (v := 16) (lv' := [(7, .int 16), (10, .int Sv), (8, .long m_2), (0, .ref h1), (1, .long m_1), (3, .long m_2), (5, .long m_3)]) hx hb dX11_feed_114 hl (k := 2) rfl (by decide +kernel) (by decide) rfl (fun ls hl => ?_)
        refine lv_goto (tgt := 8) hx hb dX11_feed_117 (by decide) ?_
        exact hc16 (n) f _ _ _ (f8_st 7 hn eSv (okb_lo c69 c71)) (by omega) (hP.sub [0, 1] rfl) (hD.sub [0, 1] (by decide) rfl) hS (lv_sub hl [0, 3, 4, 5, 6] rfl)
      · refine lv_iload hx hb dX11_feed_86 (lv_at hl 0 rfl) ?_
        refine lv_bipush (v := 126) hx hb dX11_feed_88 (by decide) ?_
        refine lv_icmp_gt (tgt := 114) hx hb dX11_feed_90 (by decide) (fun c72 => ?_) (fun c72 => ?_)
        · refine lv_iinc (v := 16) (lv' := [(7, .int 16), (10, .int Sv), (8, .long m_2), (0, .ref h1), (1, .long m_1), (3, .long m_2), (5, .long m_3)]) hx hb dX11_feed_114 hl (k := 2) rfl (by decide +kernel) (by decide) rfl (fun ls hl => ?_)
          refine lv_goto (tgt := 8) hx hb dX11_feed_117 (by decide) ?_
          exact hc16 (n) f _ _ _ (f8_st 7 hn eSv (okb_hi c69 c72)) (by omega) (hP.sub [0, 1] rfl) (hD.sub [0, 1] (by decide) rfl) hS (lv_sub hl [0, 3, 4, 5, 6] rfl)
        · refine lv_aload_n hx hb dX11_feed_93 rfl (lv_at hl 3 rfl) ?_
          refine xget F hP 0 rfl rfl inX11 2 (by decide) tb1184 rfl dX11_feed_94 ?_
          refine lv_aload_n hx hb dX11_feed_97 rfl (lv_at hl 3 rfl) ?_
          refine xget F hP 0 rfl rfl inX11 1 (by decide) tb1183 rfl dX11_feed_98 ?_
          refine lv_iload hx hb dX11_feed_101 (lv_at hl 0 rfl) ?_
          refine xistE F hP hD hS 1 rfl n (nI_pos (by omega)) (nI_clamp (by omega)) (by omega) dX11_feed_103 (fun f_73 H locs hP hD hS => ?_)
          have hP : va_P g vwCl [(h1, .inr (11, [.int 0, .int (nI n), .ref h2, x3, x4, x5, x6, x7, x8, x9, x10, x11, x12, x13, x14, x15, x16, x17, x18, x19, x20, x21, x22, x23, x24, x25, x26, x27, x28, x29, x30, x31, x32, x33, x34, x35, x36, x37, x38, x39, x40, x41, x42, x43, x44, x45, x46, x47, x48, x49, x50, x51, x52, x53, x54, x55, x56, x57, x58, x59, x60, x61, x62, x63, x64, x65, x66, x67, x68, x69, x70, x71, x72, x73])), (h2, .inl (aC 0, 1000, .inl f_73))] H := hP
          have hD : va_D A [(h1, .inr (11, [.int 0, .int (nI n), .ref h2, x3, x4, x5, x6, x7, x8, x9, x10, x11, x12, x13, x14, x15, x16, x17, x18, x19, x20, x21, x22, x23, x24, x25, x26, x27, x28, x29, x30, x31, x32, x33, x34, x35, x36, x37, x38, x39, x40, x41, x42, x43, x44, x45, x46, x47, x48, x49, x50, x51, x52, x53, x54, x55, x56, x57, x58, x59, x60, x61, x62, x63, x64, x65, x66, x67, x68, x69, x70, x71, x72, x73])), (h2, .inl (aC 0, 1000, .inl f_73))] := hD
          refine lv_aload_n hx hb dX11_feed_104 rfl (lv_at hl 3 rfl) ?_
          refine lv_dup hx hb dX11_feed_105 rfl ?_
          refine xget F hP 0 rfl rfl inX11 1 (by decide) tb1183 rfl dX11_feed_106 ?_
          refine lv_iconst (v := 1) hx hb dX11_feed_109 (by decide) ?_
          refine lv_iadd hx hb dX11_feed_110 ?_
          refine relit (v := (nI (n + 1))) (nadd (a := n) (b := 1) (by omega)) ?_
          refine xput F hP hD hS 0 rfl rfl inX11 tyX11_ok nmX11 1 (by decide) tb1183 rfl rfl rfl (Nat.le_of_ble_eq_true rfl) dX11_feed_111 (fun H locs hP hD hS => ?_)
          have hP : va_P g vwCl [(h1, .inr (11, [.int 0, .int (nI (n + 1)), .ref h2, x3, x4, x5, x6, x7, x8, x9, x10, x11, x12, x13, x14, x15, x16, x17, x18, x19, x20, x21, x22, x23, x24, x25, x26, x27, x28, x29, x30, x31, x32, x33, x34, x35, x36, x37, x38, x39, x40, x41, x42, x43, x44, x45, x46, x47, x48, x49, x50, x51, x52, x53, x54, x55, x56, x57, x58, x59, x60, x61, x62, x63, x64, x65, x66, x67, x68, x69, x70, x71, x72, x73])), (h2, .inl (aC 0, 1000, .inl f_73))] H := hP
          have hD : va_D A [(h1, .inr (11, [.int 0, .int (nI (n + 1)), .ref h2, x3, x4, x5, x6, x7, x8, x9, x10, x11, x12, x13, x14, x15, x16, x17, x18, x19, x20, x21, x22, x23, x24, x25, x26, x27, x28, x29, x30, x31, x32, x33, x34, x35, x36, x37, x38, x39, x40, x41, x42, x43, x44, x45, x46, x47, x48, x49, x50, x51, x52, x53, x54, x55, x56, x57, x58, x59, x60, x61, x62, x63, x64, x65, x66, x67, x68, x69, x70, x71, x72, x73])), (h2, .inl (aC 0, 1000, .inl f_73))] := hD
          refine lv_iinc (v := 16) (lv' := [(7, .int 16), (10, .int Sv), (8, .long m_2), (0, .ref h1), (1, .long m_1), (3, .long m_2), (5, .long m_3)]) hx hb dX11_feed_114 hl (k := 2) rfl (by decide +kernel) (by decide) rfl (fun ls hl => ?_)
          refine lv_goto (tgt := 8) hx hb dX11_feed_117 (by decide) ?_
          exact hc16 (n + 1) f_73 _ _ _ (f8_up 7 hn eSv (okb_in c71 c72)) (by omega) (hP.sub [0, 1] rfl) (hD.sub [0, 1] (by decide) rfl) hS (lv_sub hl [0, 3, 4, 5, 6] rfl)
  have hc14 : ∀ (n : Nat) (f : Nat → Int32) (H : Heap) (locs : List Loc) (ls : Array Slot), n = (0 + f8 m_1 8) + f8 m_2 6 → n ≤ 14 → va_P g vwCl [(h1, .inr (11, [.int 0, .int (nI n), .ref h2, x3, x4, x5, x6, x7, x8, x9, x10, x11, x12, x13, x14, x15, x16, x17, x18, x19, x20, x21, x22, x23, x24, x25, x26, x27, x28, x29, x30, x31, x32, x33, x34, x35, x36, x37, x38, x39, x40, x41, x42, x43, x44, x45, x46, x47, x48, x49, x50, x51, x52, x53, x54, x55, x56, x57, x58, x59, x60, x61, x62, x63, x64, x65, x66, x67, x68, x69, x70, x71, x72, x73])), (h2, .inl (aC 0, 1000, .inl f))] H → va_D A [(h1, .inr (11, [.int 0, .int (nI n), .ref h2, x3, x4, x5, x6, x7, x8, x9, x10, x11, x12, x13, x14, x15, x16, x17, x18, x19, x20, x21, x22, x23, x24, x25, x26, x27, x28, x29, x30, x31, x32, x33, x34, x35, x36, x37, x38, x39, x40, x41, x42, x43, x44, x45, x46, x47, x48, x49, x50, x51, x52, x53, x54, x55, x56, x57, x58, x59, x60, x61, x62, x63, x64, x65, x66, x67, x68, x69, x70, x71, x72, x73])), (h2, .inl (aC 0, 1000, .inl f))] → va_S A s.heap H locs → lv_has ls 11 [(7, .int 14), (0, .ref h1), (1, .long m_1), (3, .long m_2), (5, .long m_3)] → W p l e (rmL 1 0 0) s m [.ref h1, .long m_1, .long m_2, .long m_3].toArray below meth c H locs 0 0 (MQ below (QI g (fun (r : Int32) (_ : Unit) => r = (nI (((0 + f8 m_1 8) + f8 m_2 8) + f8 m_3 8))) (fun (_ : Unit) => []) A) [.ref h1, .long m_1, .long m_2, .long m_3].toArray s 0 0 A) (F0 m 8 ls []) := by
    intro n f H locs ls hn hb_ hP hD hS hl
    refine lv_iload hx hb dX11_feed_8 (lv_at hl 0 rfl) ?_
    refine lv_bipush (v := 24) hx hb dX11_feed_10 (by decide) ?_
    refine lv_icmp_ge (tgt := 120) hx hb dX11_feed_12 (by decide) (fun c_ => absurd c_ (by decide +kernel)) (fun _ => ?_)
    refine lv_iload hx hb dX11_feed_15 (lv_at hl 0 rfl) ?_
    refine lv_bipush (v := 8) hx hb dX11_feed_17 (by decide) ?_
    refine lv_icmp_ge (tgt := 26) hx hb dX11_feed_19 (by decide) (fun _ => ?_) (fun c_ => absurd (by decide +kernel) c_)
    refine lv_iload hx hb dX11_feed_26 (lv_at hl 0 rfl) ?_
    refine lv_bipush (v := 16) hx hb dX11_feed_28 (by decide) ?_
    refine lv_icmp_ge (tgt := 37) hx hb dX11_feed_30 (by decide) (fun c_ => absurd c_ (by decide +kernel)) (fun _ => ?_)
    refine lv_lload_n hx hb dX11_feed_33 rfl (lv_at hl 3 rfl) ?_
    refine lv_goto (tgt := 39) hx hb dX11_feed_34 (by decide) ?_
    refine lv_lstore (lv' := [(8, .long m_2), (7, .int 14), (0, .ref h1), (1, .long m_1), (3, .long m_2), (5, .long m_3)]) hx hb dX11_feed_39 hl (by decide) rfl (fun ls hl => ?_)
    refine lv_lload hx hb dX11_feed_41 (lv_at hl 0 rfl) ?_
    refine lv_bipush (v := 56) hx hb dX11_feed_43 (by decide) ?_
    refine lv_bipush (v := 8) hx hb dX11_feed_45 (by decide) ?_
    refine lv_iload hx hb dX11_feed_47 (lv_at hl 1 rfl) ?_
    refine lv_bipush (v := 7) hx hb dX11_feed_49 (by decide) ?_
    refine lv_iand hx hb dX11_feed_51 ?_
    refine relit (v := 6) (by decide +kernel) ?_
    refine lv_imul hx hb dX11_feed_52 ?_
    refine relit (v := 48) (by decide +kernel) ?_
    refine lv_isub hx hb dX11_feed_53 ?_
    refine relit (v := 8) (by decide +kernel) ?_
    refine lv_lushr (v := ((m_2.toUInt64 >>> ((8 : Int32).toInt64.toUInt64 &&& Int64.toUInt64 63)).toInt64)) hx hb dX11_feed_54 rfl ?_
    refine lv_ldc2 (v := 255) hx hb hown (hts _ tb1414) dX11_feed_55 ?_
    refine lv_land hx hb dX11_feed_58 ?_
    refine lv_l2i (v := ((((m_2.toUInt64 >>> ((8 : Int32).toInt64.toUInt64 &&& Int64.toUInt64 63)).toInt64) &&& 255).toInt32)) hx hb dX11_feed_59 rfl ?_
    obtain ⟨Sv, eSv⟩ : ∃ z : Int32, z = ((((m_2.toUInt64 >>> ((8 : Int32).toInt64.toUInt64 &&& Int64.toUInt64 63)).toInt64) &&& 255).toInt32) := ⟨_, rfl⟩
    refine relit (v := Sv) eSv.symm ?_
    refine lv_istore (lv' := [(10, .int Sv), (8, .long m_2), (7, .int 14), (0, .ref h1), (1, .long m_1), (3, .long m_2), (5, .long m_3)]) hx hb dX11_feed_60 hl (by decide) rfl (fun ls hl => ?_)
    refine lv_aload_n hx hb dX11_feed_62 rfl (lv_at hl 3 rfl) ?_
    refine xget F hP 0 rfl rfl inX11 1 (by decide) tb1183 rfl dX11_feed_63 ?_
    refine lv_sipush (v := 1000) hx hb dX11_feed_66 (by decide) ?_
    refine lv_icmp_ge (tgt := 114) hx hb dX11_feed_69 (by decide) (fun c_ => absurd c_ (show ¬ (nI 1000 ≤ nI n) by rw [nI_leI (by omega) (by omega)]; omega)) (fun _ => ?_)
    refine lv_iload hx hb dX11_feed_72 (lv_at hl 0 rfl) ?_
    refine lv_bipush (v := 10) hx hb dX11_feed_74 (by decide) ?_
    refine lv_icmp_eq (tgt := 93) hx hb dX11_feed_76 (by decide) (fun c77 => ?_) (fun c77 => ?_)
    · refine lv_aload_n hx hb dX11_feed_93 rfl (lv_at hl 3 rfl) ?_
      refine xget F hP 0 rfl rfl inX11 2 (by decide) tb1184 rfl dX11_feed_94 ?_
      refine lv_aload_n hx hb dX11_feed_97 rfl (lv_at hl 3 rfl) ?_
      refine xget F hP 0 rfl rfl inX11 1 (by decide) tb1183 rfl dX11_feed_98 ?_
      refine lv_iload hx hb dX11_feed_101 (lv_at hl 0 rfl) ?_
      refine xistE F hP hD hS 1 rfl n (nI_pos (by omega)) (nI_clamp (by omega)) (by omega) dX11_feed_103 (fun f_78 H locs hP hD hS => ?_)
      have hP : va_P g vwCl [(h1, .inr (11, [.int 0, .int (nI n), .ref h2, x3, x4, x5, x6, x7, x8, x9, x10, x11, x12, x13, x14, x15, x16, x17, x18, x19, x20, x21, x22, x23, x24, x25, x26, x27, x28, x29, x30, x31, x32, x33, x34, x35, x36, x37, x38, x39, x40, x41, x42, x43, x44, x45, x46, x47, x48, x49, x50, x51, x52, x53, x54, x55, x56, x57, x58, x59, x60, x61, x62, x63, x64, x65, x66, x67, x68, x69, x70, x71, x72, x73])), (h2, .inl (aC 0, 1000, .inl f_78))] H := hP
      have hD : va_D A [(h1, .inr (11, [.int 0, .int (nI n), .ref h2, x3, x4, x5, x6, x7, x8, x9, x10, x11, x12, x13, x14, x15, x16, x17, x18, x19, x20, x21, x22, x23, x24, x25, x26, x27, x28, x29, x30, x31, x32, x33, x34, x35, x36, x37, x38, x39, x40, x41, x42, x43, x44, x45, x46, x47, x48, x49, x50, x51, x52, x53, x54, x55, x56, x57, x58, x59, x60, x61, x62, x63, x64, x65, x66, x67, x68, x69, x70, x71, x72, x73])), (h2, .inl (aC 0, 1000, .inl f_78))] := hD
      refine lv_aload_n hx hb dX11_feed_104 rfl (lv_at hl 3 rfl) ?_
      refine lv_dup hx hb dX11_feed_105 rfl ?_
      refine xget F hP 0 rfl rfl inX11 1 (by decide) tb1183 rfl dX11_feed_106 ?_
      refine lv_iconst (v := 1) hx hb dX11_feed_109 (by decide) ?_
      refine lv_iadd hx hb dX11_feed_110 ?_
      refine relit (v := (nI (n + 1))) (nadd (a := n) (b := 1) (by omega)) ?_
      refine xput F hP hD hS 0 rfl rfl inX11 tyX11_ok nmX11 1 (by decide) tb1183 rfl rfl rfl (Nat.le_of_ble_eq_true rfl) dX11_feed_111 (fun H locs hP hD hS => ?_)
      have hP : va_P g vwCl [(h1, .inr (11, [.int 0, .int (nI (n + 1)), .ref h2, x3, x4, x5, x6, x7, x8, x9, x10, x11, x12, x13, x14, x15, x16, x17, x18, x19, x20, x21, x22, x23, x24, x25, x26, x27, x28, x29, x30, x31, x32, x33, x34, x35, x36, x37, x38, x39, x40, x41, x42, x43, x44, x45, x46, x47, x48, x49, x50, x51, x52, x53, x54, x55, x56, x57, x58, x59, x60, x61, x62, x63, x64, x65, x66, x67, x68, x69, x70, x71, x72, x73])), (h2, .inl (aC 0, 1000, .inl f_78))] H := hP
      have hD : va_D A [(h1, .inr (11, [.int 0, .int (nI (n + 1)), .ref h2, x3, x4, x5, x6, x7, x8, x9, x10, x11, x12, x13, x14, x15, x16, x17, x18, x19, x20, x21, x22, x23, x24, x25, x26, x27, x28, x29, x30, x31, x32, x33, x34, x35, x36, x37, x38, x39, x40, x41, x42, x43, x44, x45, x46, x47, x48, x49, x50, x51, x52, x53, x54, x55, x56, x57, x58, x59, x60, x61, x62, x63, x64, x65, x66, x67, x68, x69, x70, x71, x72, x73])), (h2, .inl (aC 0, 1000, .inl f_78))] := hD
      refine lv_iinc (v := 15) (lv' := [(7, .int 15), (10, .int Sv), (8, .long m_2), (0, .ref h1), (1, .long m_1), (3, .long m_2), (5, .long m_3)]) hx hb dX11_feed_114 hl (k := 2) rfl (by decide +kernel) (by decide) rfl (fun ls hl => ?_)
      refine lv_goto (tgt := 8) hx hb dX11_feed_117 (by decide) ?_
      exact hc15 (n + 1) f_78 _ _ _ (f8_up 6 hn eSv (okb_eq c77)) (by omega) (hP.sub [0, 1] rfl) (hD.sub [0, 1] (by decide) rfl) hS (lv_sub hl [0, 3, 4, 5, 6] rfl)
    · refine lv_iload hx hb dX11_feed_79 (lv_at hl 0 rfl) ?_
      refine lv_bipush (v := 32) hx hb dX11_feed_81 (by decide) ?_
      refine lv_icmp_lt (tgt := 114) hx hb dX11_feed_83 (by decide) (fun c79 => ?_) (fun c79 => ?_)
      · refine lv_iinc (v := 15) (lv' := [(7, .int 15), (10, .int Sv), (8, .long m_2), (0, .ref h1), (1, .long m_1), (3, .long m_2), (5, .long m_3)]) hx hb dX11_feed_114 hl (k := 2) rfl (by decide +kernel) (by decide) rfl (fun ls hl => ?_)
        refine lv_goto (tgt := 8) hx hb dX11_feed_117 (by decide) ?_
        exact hc15 (n) f _ _ _ (f8_st 6 hn eSv (okb_lo c77 c79)) (by omega) (hP.sub [0, 1] rfl) (hD.sub [0, 1] (by decide) rfl) hS (lv_sub hl [0, 3, 4, 5, 6] rfl)
      · refine lv_iload hx hb dX11_feed_86 (lv_at hl 0 rfl) ?_
        refine lv_bipush (v := 126) hx hb dX11_feed_88 (by decide) ?_
        refine lv_icmp_gt (tgt := 114) hx hb dX11_feed_90 (by decide) (fun c80 => ?_) (fun c80 => ?_)
        · refine lv_iinc (v := 15) (lv' := [(7, .int 15), (10, .int Sv), (8, .long m_2), (0, .ref h1), (1, .long m_1), (3, .long m_2), (5, .long m_3)]) hx hb dX11_feed_114 hl (k := 2) rfl (by decide +kernel) (by decide) rfl (fun ls hl => ?_)
          refine lv_goto (tgt := 8) hx hb dX11_feed_117 (by decide) ?_
          exact hc15 (n) f _ _ _ (f8_st 6 hn eSv (okb_hi c77 c80)) (by omega) (hP.sub [0, 1] rfl) (hD.sub [0, 1] (by decide) rfl) hS (lv_sub hl [0, 3, 4, 5, 6] rfl)
        · refine lv_aload_n hx hb dX11_feed_93 rfl (lv_at hl 3 rfl) ?_
          refine xget F hP 0 rfl rfl inX11 2 (by decide) tb1184 rfl dX11_feed_94 ?_
          refine lv_aload_n hx hb dX11_feed_97 rfl (lv_at hl 3 rfl) ?_
          refine xget F hP 0 rfl rfl inX11 1 (by decide) tb1183 rfl dX11_feed_98 ?_
          refine lv_iload hx hb dX11_feed_101 (lv_at hl 0 rfl) ?_
          refine xistE F hP hD hS 1 rfl n (nI_pos (by omega)) (nI_clamp (by omega)) (by omega) dX11_feed_103 (fun f_81 H locs hP hD hS => ?_)
          have hP : va_P g vwCl [(h1, .inr (11, [.int 0, .int (nI n), .ref h2, x3, x4, x5, x6, x7, x8, x9, x10, x11, x12, x13, x14, x15, x16, x17, x18, x19, x20, x21, x22, x23, x24, x25, x26, x27, x28, x29, x30, x31, x32, x33, x34, x35, x36, x37, x38, x39, x40, x41, x42, x43, x44, x45, x46, x47, x48, x49, x50, x51, x52, x53, x54, x55, x56, x57, x58, x59, x60, x61, x62, x63, x64, x65, x66, x67, x68, x69, x70, x71, x72, x73])), (h2, .inl (aC 0, 1000, .inl f_81))] H := hP
          have hD : va_D A [(h1, .inr (11, [.int 0, .int (nI n), .ref h2, x3, x4, x5, x6, x7, x8, x9, x10, x11, x12, x13, x14, x15, x16, x17, x18, x19, x20, x21, x22, x23, x24, x25, x26, x27, x28, x29, x30, x31, x32, x33, x34, x35, x36, x37, x38, x39, x40, x41, x42, x43, x44, x45, x46, x47, x48, x49, x50, x51, x52, x53, x54, x55, x56, x57, x58, x59, x60, x61, x62, x63, x64, x65, x66, x67, x68, x69, x70, x71, x72, x73])), (h2, .inl (aC 0, 1000, .inl f_81))] := hD
          refine lv_aload_n hx hb dX11_feed_104 rfl (lv_at hl 3 rfl) ?_
          refine lv_dup hx hb dX11_feed_105 rfl ?_
          refine xget F hP 0 rfl rfl inX11 1 (by decide) tb1183 rfl dX11_feed_106 ?_
          refine lv_iconst (v := 1) hx hb dX11_feed_109 (by decide) ?_
          refine lv_iadd hx hb dX11_feed_110 ?_
          refine relit (v := (nI (n + 1))) (nadd (a := n) (b := 1) (by omega)) ?_
          refine xput F hP hD hS 0 rfl rfl inX11 tyX11_ok nmX11 1 (by decide) tb1183 rfl rfl rfl (Nat.le_of_ble_eq_true rfl) dX11_feed_111 (fun H locs hP hD hS => ?_)
          have hP : va_P g vwCl [(h1, .inr (11, [.int 0, .int (nI (n + 1)), .ref h2, x3, x4, x5, x6, x7, x8, x9, x10, x11, x12, x13, x14, x15, x16, x17, x18, x19, x20, x21, x22, x23, x24, x25, x26, x27, x28, x29, x30, x31, x32, x33, x34, x35, x36, x37, x38, x39, x40, x41, x42, x43, x44, x45, x46, x47, x48, x49, x50, x51, x52, x53, x54, x55, x56, x57, x58, x59, x60, x61, x62, x63, x64, x65, x66, x67, x68, x69, x70, x71, x72, x73])), (h2, .inl (aC 0, 1000, .inl f_81))] H := hP
          have hD : va_D A [(h1, .inr (11, [.int 0, .int (nI (n + 1)), .ref h2, x3, x4, x5, x6, x7, x8, x9, x10, x11, x12, x13, x14, x15, x16, x17, x18, x19, x20, x21, x22, x23, x24, x25, x26, x27, x28, x29, x30, x31, x32, x33, x34, x35, x36, x37, x38, x39, x40, x41, x42, x43, x44, x45, x46, x47, x48, x49, x50, x51, x52, x53, x54, x55, x56, x57, x58, x59, x60, x61, x62, x63, x64, x65, x66, x67, x68, x69, x70, x71, x72, x73])), (h2, .inl (aC 0, 1000, .inl f_81))] := hD
          refine lv_iinc (v := 15) (lv' := [(7, .int 15), (10, .int Sv), (8, .long m_2), (0, .ref h1), (1, .long m_1), (3, .long m_2), (5, .long m_3)]) hx hb dX11_feed_114 hl (k := 2) rfl (by decide +kernel) (by decide) rfl (fun ls hl => ?_)
          refine lv_goto (tgt := 8) hx hb dX11_feed_117 (by decide) ?_
          exact hc15 (n + 1) f_81 _ _ _ (f8_up 6 hn eSv (okb_in c79 c80)) (by omega) (hP.sub [0, 1] rfl) (hD.sub [0, 1] (by decide) rfl) hS (lv_sub hl [0, 3, 4, 5, 6] rfl)
  have hc13 : ∀ (n : Nat) (f : Nat → Int32) (H : Heap) (locs : List Loc) (ls : Array Slot), n = (0 + f8 m_1 8) + f8 m_2 5 → n ≤ 13 → va_P g vwCl [(h1, .inr (11, [.int 0, .int (nI n), .ref h2, x3, x4, x5, x6, x7, x8, x9, x10, x11, x12, x13, x14, x15, x16, x17, x18, x19, x20, x21, x22, x23, x24, x25, x26, x27, x28, x29, x30, x31, x32, x33, x34, x35, x36, x37, x38, x39, x40, x41, x42, x43, x44, x45, x46, x47, x48, x49, x50, x51, x52, x53, x54, x55, x56, x57, x58, x59, x60, x61, x62, x63, x64, x65, x66, x67, x68, x69, x70, x71, x72, x73])), (h2, .inl (aC 0, 1000, .inl f))] H → va_D A [(h1, .inr (11, [.int 0, .int (nI n), .ref h2, x3, x4, x5, x6, x7, x8, x9, x10, x11, x12, x13, x14, x15, x16, x17, x18, x19, x20, x21, x22, x23, x24, x25, x26, x27, x28, x29, x30, x31, x32, x33, x34, x35, x36, x37, x38, x39, x40, x41, x42, x43, x44, x45, x46, x47, x48, x49, x50, x51, x52, x53, x54, x55, x56, x57, x58, x59, x60, x61, x62, x63, x64, x65, x66, x67, x68, x69, x70, x71, x72, x73])), (h2, .inl (aC 0, 1000, .inl f))] → va_S A s.heap H locs → lv_has ls 11 [(7, .int 13), (0, .ref h1), (1, .long m_1), (3, .long m_2), (5, .long m_3)] → W p l e (rmL 1 0 0) s m [.ref h1, .long m_1, .long m_2, .long m_3].toArray below meth c H locs 0 0 (MQ below (QI g (fun (r : Int32) (_ : Unit) => r = (nI (((0 + f8 m_1 8) + f8 m_2 8) + f8 m_3 8))) (fun (_ : Unit) => []) A) [.ref h1, .long m_1, .long m_2, .long m_3].toArray s 0 0 A) (F0 m 8 ls []) := by
    intro n f H locs ls hn hb_ hP hD hS hl
    refine lv_iload hx hb dX11_feed_8 (lv_at hl 0 rfl) ?_
    refine lv_bipush (v := 24) hx hb dX11_feed_10 (by decide) ?_
    refine lv_icmp_ge (tgt := 120) hx hb dX11_feed_12 (by decide) (fun c_ => absurd c_ (by decide +kernel)) (fun _ => ?_)
    refine lv_iload hx hb dX11_feed_15 (lv_at hl 0 rfl) ?_
    refine lv_bipush (v := 8) hx hb dX11_feed_17 (by decide) ?_
    refine lv_icmp_ge (tgt := 26) hx hb dX11_feed_19 (by decide) (fun _ => ?_) (fun c_ => absurd (by decide +kernel) c_)
    refine lv_iload hx hb dX11_feed_26 (lv_at hl 0 rfl) ?_
    refine lv_bipush (v := 16) hx hb dX11_feed_28 (by decide) ?_
    refine lv_icmp_ge (tgt := 37) hx hb dX11_feed_30 (by decide) (fun c_ => absurd c_ (by decide +kernel)) (fun _ => ?_)
    refine lv_lload_n hx hb dX11_feed_33 rfl (lv_at hl 3 rfl) ?_
    refine lv_goto (tgt := 39) hx hb dX11_feed_34 (by decide) ?_
    refine lv_lstore (lv' := [(8, .long m_2), (7, .int 13), (0, .ref h1), (1, .long m_1), (3, .long m_2), (5, .long m_3)]) hx hb dX11_feed_39 hl (by decide) rfl (fun ls hl => ?_)
    refine lv_lload hx hb dX11_feed_41 (lv_at hl 0 rfl) ?_
    refine lv_bipush (v := 56) hx hb dX11_feed_43 (by decide) ?_
    refine lv_bipush (v := 8) hx hb dX11_feed_45 (by decide) ?_
    refine lv_iload hx hb dX11_feed_47 (lv_at hl 1 rfl) ?_
    refine lv_bipush (v := 7) hx hb dX11_feed_49 (by decide) ?_
    refine lv_iand hx hb dX11_feed_51 ?_
    refine relit (v := 5) (by decide +kernel) ?_
    refine lv_imul hx hb dX11_feed_52 ?_
    refine relit (v := 40) (by decide +kernel) ?_
    refine lv_isub hx hb dX11_feed_53 ?_
    refine relit (v := 16) (by decide +kernel) ?_
    refine lv_lushr (v := ((m_2.toUInt64 >>> ((16 : Int32).toInt64.toUInt64 &&& Int64.toUInt64 63)).toInt64)) hx hb dX11_feed_54 rfl ?_
    refine lv_ldc2 (v := 255) hx hb hown (hts _ tb1414) dX11_feed_55 ?_
    refine lv_land hx hb dX11_feed_58 ?_
    refine lv_l2i (v := ((((m_2.toUInt64 >>> ((16 : Int32).toInt64.toUInt64 &&& Int64.toUInt64 63)).toInt64) &&& 255).toInt32)) hx hb dX11_feed_59 rfl ?_
    obtain ⟨Sv, eSv⟩ : ∃ z : Int32, z = ((((m_2.toUInt64 >>> ((16 : Int32).toInt64.toUInt64 &&& Int64.toUInt64 63)).toInt64) &&& 255).toInt32) := ⟨_, rfl⟩
    refine relit (v := Sv) eSv.symm ?_
    refine lv_istore (lv' := [(10, .int Sv), (8, .long m_2), (7, .int 13), (0, .ref h1), (1, .long m_1), (3, .long m_2), (5, .long m_3)]) hx hb dX11_feed_60 hl (by decide) rfl (fun ls hl => ?_)
    refine lv_aload_n hx hb dX11_feed_62 rfl (lv_at hl 3 rfl) ?_
    refine xget F hP 0 rfl rfl inX11 1 (by decide) tb1183 rfl dX11_feed_63 ?_
    refine lv_sipush (v := 1000) hx hb dX11_feed_66 (by decide) ?_
    refine lv_icmp_ge (tgt := 114) hx hb dX11_feed_69 (by decide) (fun c_ => absurd c_ (show ¬ (nI 1000 ≤ nI n) by rw [nI_leI (by omega) (by omega)]; omega)) (fun _ => ?_)
    refine lv_iload hx hb dX11_feed_72 (lv_at hl 0 rfl) ?_
    refine lv_bipush (v := 10) hx hb dX11_feed_74 (by decide) ?_
    refine lv_icmp_eq (tgt := 93) hx hb dX11_feed_76 (by decide) (fun c85 => ?_) (fun c85 => ?_)
    · refine lv_aload_n hx hb dX11_feed_93 rfl (lv_at hl 3 rfl) ?_
      refine xget F hP 0 rfl rfl inX11 2 (by decide) tb1184 rfl dX11_feed_94 ?_
      refine lv_aload_n hx hb dX11_feed_97 rfl (lv_at hl 3 rfl) ?_
      refine xget F hP 0 rfl rfl inX11 1 (by decide) tb1183 rfl dX11_feed_98 ?_
      refine lv_iload hx hb dX11_feed_101 (lv_at hl 0 rfl) ?_
      refine xistE F hP hD hS 1 rfl n (nI_pos (by omega)) (nI_clamp (by omega)) (by omega) dX11_feed_103 (fun f_86 H locs hP hD hS => ?_)
      have hP : va_P g vwCl [(h1, .inr (11, [.int 0, .int (nI n), .ref h2, x3, x4, x5, x6, x7, x8, x9, x10, x11, x12, x13, x14, x15, x16, x17, x18, x19, x20, x21, x22, x23, x24, x25, x26, x27, x28, x29, x30, x31, x32, x33, x34, x35, x36, x37, x38, x39, x40, x41, x42, x43, x44, x45, x46, x47, x48, x49, x50, x51, x52, x53, x54, x55, x56, x57, x58, x59, x60, x61, x62, x63, x64, x65, x66, x67, x68, x69, x70, x71, x72, x73])), (h2, .inl (aC 0, 1000, .inl f_86))] H := hP
      have hD : va_D A [(h1, .inr (11, [.int 0, .int (nI n), .ref h2, x3, x4, x5, x6, x7, x8, x9, x10, x11, x12, x13, x14, x15, x16, x17, x18, x19, x20, x21, x22, x23, x24, x25, x26, x27, x28, x29, x30, x31, x32, x33, x34, x35, x36, x37, x38, x39, x40, x41, x42, x43, x44, x45, x46, x47, x48, x49, x50, x51, x52, x53, x54, x55, x56, x57, x58, x59, x60, x61, x62, x63, x64, x65, x66, x67, x68, x69, x70, x71, x72, x73])), (h2, .inl (aC 0, 1000, .inl f_86))] := hD
      refine lv_aload_n hx hb dX11_feed_104 rfl (lv_at hl 3 rfl) ?_
      refine lv_dup hx hb dX11_feed_105 rfl ?_
      refine xget F hP 0 rfl rfl inX11 1 (by decide) tb1183 rfl dX11_feed_106 ?_
      refine lv_iconst (v := 1) hx hb dX11_feed_109 (by decide) ?_
      refine lv_iadd hx hb dX11_feed_110 ?_
      refine relit (v := (nI (n + 1))) (nadd (a := n) (b := 1) (by omega)) ?_
      refine xput F hP hD hS 0 rfl rfl inX11 tyX11_ok nmX11 1 (by decide) tb1183 rfl rfl rfl (Nat.le_of_ble_eq_true rfl) dX11_feed_111 (fun H locs hP hD hS => ?_)
      have hP : va_P g vwCl [(h1, .inr (11, [.int 0, .int (nI (n + 1)), .ref h2, x3, x4, x5, x6, x7, x8, x9, x10, x11, x12, x13, x14, x15, x16, x17, x18, x19, x20, x21, x22, x23, x24, x25, x26, x27, x28, x29, x30, x31, x32, x33, x34, x35, x36, x37, x38, x39, x40, x41, x42, x43, x44, x45, x46, x47, x48, x49, x50, x51, x52, x53, x54, x55, x56, x57, x58, x59, x60, x61, x62, x63, x64, x65, x66, x67, x68, x69, x70, x71, x72, x73])), (h2, .inl (aC 0, 1000, .inl f_86))] H := hP
      have hD : va_D A [(h1, .inr (11, [.int 0, .int (nI (n + 1)), .ref h2, x3, x4, x5, x6, x7, x8, x9, x10, x11, x12, x13, x14, x15, x16, x17, x18, x19, x20, x21, x22, x23, x24, x25, x26, x27, x28, x29, x30, x31, x32, x33, x34, x35, x36, x37, x38, x39, x40, x41, x42, x43, x44, x45, x46, x47, x48, x49, x50, x51, x52, x53, x54, x55, x56, x57, x58, x59, x60, x61, x62, x63, x64, x65, x66, x67, x68, x69, x70, x71, x72, x73])), (h2, .inl (aC 0, 1000, .inl f_86))] := hD
      refine lv_iinc (v := 14) (lv' := [(7, .int 14), (10, .int Sv), (8, .long m_2), (0, .ref h1), (1, .long m_1), (3, .long m_2), (5, .long m_3)]) hx hb dX11_feed_114 hl (k := 2) rfl (by decide +kernel) (by decide) rfl (fun ls hl => ?_)
      refine lv_goto (tgt := 8) hx hb dX11_feed_117 (by decide) ?_
      exact hc14 (n + 1) f_86 _ _ _ (f8_up 5 hn eSv (okb_eq c85)) (by omega) (hP.sub [0, 1] rfl) (hD.sub [0, 1] (by decide) rfl) hS (lv_sub hl [0, 3, 4, 5, 6] rfl)
    · refine lv_iload hx hb dX11_feed_79 (lv_at hl 0 rfl) ?_
      refine lv_bipush (v := 32) hx hb dX11_feed_81 (by decide) ?_
      refine lv_icmp_lt (tgt := 114) hx hb dX11_feed_83 (by decide) (fun c87 => ?_) (fun c87 => ?_)
      · refine lv_iinc (v := 14) (lv' := [(7, .int 14), (10, .int Sv), (8, .long m_2), (0, .ref h1), (1, .long m_1), (3, .long m_2), (5, .long m_3)]) hx hb dX11_feed_114 hl (k := 2) rfl (by decide +kernel) (by decide) rfl (fun ls hl => ?_)
        refine lv_goto (tgt := 8) hx hb dX11_feed_117 (by decide) ?_
        exact hc14 (n) f _ _ _ (f8_st 5 hn eSv (okb_lo c85 c87)) (by omega) (hP.sub [0, 1] rfl) (hD.sub [0, 1] (by decide) rfl) hS (lv_sub hl [0, 3, 4, 5, 6] rfl)
      · refine lv_iload hx hb dX11_feed_86 (lv_at hl 0 rfl) ?_
        refine lv_bipush (v := 126) hx hb dX11_feed_88 (by decide) ?_
        refine lv_icmp_gt (tgt := 114) hx hb dX11_feed_90 (by decide) (fun c88 => ?_) (fun c88 => ?_)
        · refine lv_iinc (v := 14) (lv' := [(7, .int 14), (10, .int Sv), (8, .long m_2), (0, .ref h1), (1, .long m_1), (3, .long m_2), (5, .long m_3)]) hx hb dX11_feed_114 hl (k := 2) rfl (by decide +kernel) (by decide) rfl (fun ls hl => ?_)
          refine lv_goto (tgt := 8) hx hb dX11_feed_117 (by decide) ?_
          exact hc14 (n) f _ _ _ (f8_st 5 hn eSv (okb_hi c85 c88)) (by omega) (hP.sub [0, 1] rfl) (hD.sub [0, 1] (by decide) rfl) hS (lv_sub hl [0, 3, 4, 5, 6] rfl)
        · refine lv_aload_n hx hb dX11_feed_93 rfl (lv_at hl 3 rfl) ?_
          refine xget F hP 0 rfl rfl inX11 2 (by decide) tb1184 rfl dX11_feed_94 ?_
          refine lv_aload_n hx hb dX11_feed_97 rfl (lv_at hl 3 rfl) ?_
          refine xget F hP 0 rfl rfl inX11 1 (by decide) tb1183 rfl dX11_feed_98 ?_
          refine lv_iload hx hb dX11_feed_101 (lv_at hl 0 rfl) ?_
          refine xistE F hP hD hS 1 rfl n (nI_pos (by omega)) (nI_clamp (by omega)) (by omega) dX11_feed_103 (fun f_89 H locs hP hD hS => ?_)
          have hP : va_P g vwCl [(h1, .inr (11, [.int 0, .int (nI n), .ref h2, x3, x4, x5, x6, x7, x8, x9, x10, x11, x12, x13, x14, x15, x16, x17, x18, x19, x20, x21, x22, x23, x24, x25, x26, x27, x28, x29, x30, x31, x32, x33, x34, x35, x36, x37, x38, x39, x40, x41, x42, x43, x44, x45, x46, x47, x48, x49, x50, x51, x52, x53, x54, x55, x56, x57, x58, x59, x60, x61, x62, x63, x64, x65, x66, x67, x68, x69, x70, x71, x72, x73])), (h2, .inl (aC 0, 1000, .inl f_89))] H := hP
          have hD : va_D A [(h1, .inr (11, [.int 0, .int (nI n), .ref h2, x3, x4, x5, x6, x7, x8, x9, x10, x11, x12, x13, x14, x15, x16, x17, x18, x19, x20, x21, x22, x23, x24, x25, x26, x27, x28, x29, x30, x31, x32, x33, x34, x35, x36, x37, x38, x39, x40, x41, x42, x43, x44, x45, x46, x47, x48, x49, x50, x51, x52, x53, x54, x55, x56, x57, x58, x59, x60, x61, x62, x63, x64, x65, x66, x67, x68, x69, x70, x71, x72, x73])), (h2, .inl (aC 0, 1000, .inl f_89))] := hD
          refine lv_aload_n hx hb dX11_feed_104 rfl (lv_at hl 3 rfl) ?_
          refine lv_dup hx hb dX11_feed_105 rfl ?_
          refine xget F hP 0 rfl rfl inX11 1 (by decide) tb1183 rfl dX11_feed_106 ?_
          refine lv_iconst (v := 1) hx hb dX11_feed_109 (by decide) ?_
          refine lv_iadd hx hb dX11_feed_110 ?_
          refine relit (v := (nI (n + 1))) (nadd (a := n) (b := 1) (by omega)) ?_
          refine xput F hP hD hS 0 rfl rfl inX11 tyX11_ok nmX11 1 (by decide) tb1183 rfl rfl rfl (Nat.le_of_ble_eq_true rfl) dX11_feed_111 (fun H locs hP hD hS => ?_)
          have hP : va_P g vwCl [(h1, .inr (11, [.int 0, .int (nI (n + 1)), .ref h2, x3, x4, x5, x6, x7, x8, x9, x10, x11, x12, x13, x14, x15, x16, x17, x18, x19, x20, x21, x22, x23, x24, x25, x26, x27, x28, x29, x30, x31, x32, x33, x34, x35, x36, x37, x38, x39, x40, x41, x42, x43, x44, x45, x46, x47, x48, x49, x50, x51, x52, x53, x54, x55, x56, x57, x58, x59, x60, x61, x62, x63, x64, x65, x66, x67, x68, x69, x70, x71, x72, x73])), (h2, .inl (aC 0, 1000, .inl f_89))] H := hP
          have hD : va_D A [(h1, .inr (11, [.int 0, .int (nI (n + 1)), .ref h2, x3, x4, x5, x6, x7, x8, x9, x10, x11, x12, x13, x14, x15, x16, x17, x18, x19, x20, x21, x22, x23, x24, x25, x26, x27, x28, x29, x30, x31, x32, x33, x34, x35, x36, x37, x38, x39, x40, x41, x42, x43, x44, x45, x46, x47, x48, x49, x50, x51, x52, x53, x54, x55, x56, x57, x58, x59, x60, x61, x62, x63, x64, x65, x66, x67, x68, x69, x70, x71, x72, x73])), (h2, .inl (aC 0, 1000, .inl f_89))] := hD
          refine lv_iinc (v := 14) (lv' := [(7, .int 14), (10, .int Sv), (8, .long m_2), (0, .ref h1), (1, .long m_1), (3, .long m_2), (5, .long m_3)]) hx hb dX11_feed_114 hl (k := 2) rfl (by decide +kernel) (by decide) rfl (fun ls hl => ?_)
          refine lv_goto (tgt := 8) hx hb dX11_feed_117 (by decide) ?_
          exact hc14 (n + 1) f_89 _ _ _ (f8_up 5 hn eSv (okb_in c87 c88)) (by omega) (hP.sub [0, 1] rfl) (hD.sub [0, 1] (by decide) rfl) hS (lv_sub hl [0, 3, 4, 5, 6] rfl)
  have hc12 : ∀ (n : Nat) (f : Nat → Int32) (H : Heap) (locs : List Loc) (ls : Array Slot), n = (0 + f8 m_1 8) + f8 m_2 4 → n ≤ 12 → va_P g vwCl [(h1, .inr (11, [.int 0, .int (nI n), .ref h2, x3, x4, x5, x6, x7, x8, x9, x10, x11, x12, x13, x14, x15, x16, x17, x18, x19, x20, x21, x22, x23, x24, x25, x26, x27, x28, x29, x30, x31, x32, x33, x34, x35, x36, x37, x38, x39, x40, x41, x42, x43, x44, x45, x46, x47, x48, x49, x50, x51, x52, x53, x54, x55, x56, x57, x58, x59, x60, x61, x62, x63, x64, x65, x66, x67, x68, x69, x70, x71, x72, x73])), (h2, .inl (aC 0, 1000, .inl f))] H → va_D A [(h1, .inr (11, [.int 0, .int (nI n), .ref h2, x3, x4, x5, x6, x7, x8, x9, x10, x11, x12, x13, x14, x15, x16, x17, x18, x19, x20, x21, x22, x23, x24, x25, x26, x27, x28, x29, x30, x31, x32, x33, x34, x35, x36, x37, x38, x39, x40, x41, x42, x43, x44, x45, x46, x47, x48, x49, x50, x51, x52, x53, x54, x55, x56, x57, x58, x59, x60, x61, x62, x63, x64, x65, x66, x67, x68, x69, x70, x71, x72, x73])), (h2, .inl (aC 0, 1000, .inl f))] → va_S A s.heap H locs → lv_has ls 11 [(7, .int 12), (0, .ref h1), (1, .long m_1), (3, .long m_2), (5, .long m_3)] → W p l e (rmL 1 0 0) s m [.ref h1, .long m_1, .long m_2, .long m_3].toArray below meth c H locs 0 0 (MQ below (QI g (fun (r : Int32) (_ : Unit) => r = (nI (((0 + f8 m_1 8) + f8 m_2 8) + f8 m_3 8))) (fun (_ : Unit) => []) A) [.ref h1, .long m_1, .long m_2, .long m_3].toArray s 0 0 A) (F0 m 8 ls []) := by
    intro n f H locs ls hn hb_ hP hD hS hl
    refine lv_iload hx hb dX11_feed_8 (lv_at hl 0 rfl) ?_
    refine lv_bipush (v := 24) hx hb dX11_feed_10 (by decide) ?_
    refine lv_icmp_ge (tgt := 120) hx hb dX11_feed_12 (by decide) (fun c_ => absurd c_ (by decide +kernel)) (fun _ => ?_)
    refine lv_iload hx hb dX11_feed_15 (lv_at hl 0 rfl) ?_
    refine lv_bipush (v := 8) hx hb dX11_feed_17 (by decide) ?_
    refine lv_icmp_ge (tgt := 26) hx hb dX11_feed_19 (by decide) (fun _ => ?_) (fun c_ => absurd (by decide +kernel) c_)
    refine lv_iload hx hb dX11_feed_26 (lv_at hl 0 rfl) ?_
    refine lv_bipush (v := 16) hx hb dX11_feed_28 (by decide) ?_
    refine lv_icmp_ge (tgt := 37) hx hb dX11_feed_30 (by decide) (fun c_ => absurd c_ (by decide +kernel)) (fun _ => ?_)
    refine lv_lload_n hx hb dX11_feed_33 rfl (lv_at hl 3 rfl) ?_
    refine lv_goto (tgt := 39) hx hb dX11_feed_34 (by decide) ?_
    refine lv_lstore (lv' := [(8, .long m_2), (7, .int 12), (0, .ref h1), (1, .long m_1), (3, .long m_2), (5, .long m_3)]) hx hb dX11_feed_39 hl (by decide) rfl (fun ls hl => ?_)
    refine lv_lload hx hb dX11_feed_41 (lv_at hl 0 rfl) ?_
    refine lv_bipush (v := 56) hx hb dX11_feed_43 (by decide) ?_
    refine lv_bipush (v := 8) hx hb dX11_feed_45 (by decide) ?_
    refine lv_iload hx hb dX11_feed_47 (lv_at hl 1 rfl) ?_
    refine lv_bipush (v := 7) hx hb dX11_feed_49 (by decide) ?_
    refine lv_iand hx hb dX11_feed_51 ?_
    refine relit (v := 4) (by decide +kernel) ?_
    refine lv_imul hx hb dX11_feed_52 ?_
    refine relit (v := 32) (by decide +kernel) ?_
    refine lv_isub hx hb dX11_feed_53 ?_
    refine relit (v := 24) (by decide +kernel) ?_
    refine lv_lushr (v := ((m_2.toUInt64 >>> ((24 : Int32).toInt64.toUInt64 &&& Int64.toUInt64 63)).toInt64)) hx hb dX11_feed_54 rfl ?_
    refine lv_ldc2 (v := 255) hx hb hown (hts _ tb1414) dX11_feed_55 ?_
    refine lv_land hx hb dX11_feed_58 ?_
    refine lv_l2i (v := ((((m_2.toUInt64 >>> ((24 : Int32).toInt64.toUInt64 &&& Int64.toUInt64 63)).toInt64) &&& 255).toInt32)) hx hb dX11_feed_59 rfl ?_
    obtain ⟨Sv, eSv⟩ : ∃ z : Int32, z = ((((m_2.toUInt64 >>> ((24 : Int32).toInt64.toUInt64 &&& Int64.toUInt64 63)).toInt64) &&& 255).toInt32) := ⟨_, rfl⟩
    refine relit (v := Sv) eSv.symm ?_
    refine lv_istore (lv' := [(10, .int Sv), (8, .long m_2), (7, .int 12), (0, .ref h1), (1, .long m_1), (3, .long m_2), (5, .long m_3)]) hx hb dX11_feed_60 hl (by decide) rfl (fun ls hl => ?_)
    refine lv_aload_n hx hb dX11_feed_62 rfl (lv_at hl 3 rfl) ?_
    refine xget F hP 0 rfl rfl inX11 1 (by decide) tb1183 rfl dX11_feed_63 ?_
    refine lv_sipush (v := 1000) hx hb dX11_feed_66 (by decide) ?_
    refine lv_icmp_ge (tgt := 114) hx hb dX11_feed_69 (by decide) (fun c_ => absurd c_ (show ¬ (nI 1000 ≤ nI n) by rw [nI_leI (by omega) (by omega)]; omega)) (fun _ => ?_)
    refine lv_iload hx hb dX11_feed_72 (lv_at hl 0 rfl) ?_
    refine lv_bipush (v := 10) hx hb dX11_feed_74 (by decide) ?_
    refine lv_icmp_eq (tgt := 93) hx hb dX11_feed_76 (by decide) (fun c93 => ?_) (fun c93 => ?_)
    · refine lv_aload_n hx hb dX11_feed_93 rfl (lv_at hl 3 rfl) ?_
      refine xget F hP 0 rfl rfl inX11 2 (by decide) tb1184 rfl dX11_feed_94 ?_
      refine lv_aload_n hx hb dX11_feed_97 rfl (lv_at hl 3 rfl) ?_
      refine xget F hP 0 rfl rfl inX11 1 (by decide) tb1183 rfl dX11_feed_98 ?_
      refine lv_iload hx hb dX11_feed_101 (lv_at hl 0 rfl) ?_
      refine xistE F hP hD hS 1 rfl n (nI_pos (by omega)) (nI_clamp (by omega)) (by omega) dX11_feed_103 (fun f_94 H locs hP hD hS => ?_)
      have hP : va_P g vwCl [(h1, .inr (11, [.int 0, .int (nI n), .ref h2, x3, x4, x5, x6, x7, x8, x9, x10, x11, x12, x13, x14, x15, x16, x17, x18, x19, x20, x21, x22, x23, x24, x25, x26, x27, x28, x29, x30, x31, x32, x33, x34, x35, x36, x37, x38, x39, x40, x41, x42, x43, x44, x45, x46, x47, x48, x49, x50, x51, x52, x53, x54, x55, x56, x57, x58, x59, x60, x61, x62, x63, x64, x65, x66, x67, x68, x69, x70, x71, x72, x73])), (h2, .inl (aC 0, 1000, .inl f_94))] H := hP
      have hD : va_D A [(h1, .inr (11, [.int 0, .int (nI n), .ref h2, x3, x4, x5, x6, x7, x8, x9, x10, x11, x12, x13, x14, x15, x16, x17, x18, x19, x20, x21, x22, x23, x24, x25, x26, x27, x28, x29, x30, x31, x32, x33, x34, x35, x36, x37, x38, x39, x40, x41, x42, x43, x44, x45, x46, x47, x48, x49, x50, x51, x52, x53, x54, x55, x56, x57, x58, x59, x60, x61, x62, x63, x64, x65, x66, x67, x68, x69, x70, x71, x72, x73])), (h2, .inl (aC 0, 1000, .inl f_94))] := hD
      refine lv_aload_n hx hb dX11_feed_104 rfl (lv_at hl 3 rfl) ?_
      refine lv_dup hx hb dX11_feed_105 rfl ?_
      refine xget F hP 0 rfl rfl inX11 1 (by decide) tb1183 rfl dX11_feed_106 ?_
      refine lv_iconst (v := 1) hx hb dX11_feed_109 (by decide) ?_
      refine lv_iadd hx hb dX11_feed_110 ?_
      refine relit (v := (nI (n + 1))) (nadd (a := n) (b := 1) (by omega)) ?_
      refine xput F hP hD hS 0 rfl rfl inX11 tyX11_ok nmX11 1 (by decide) tb1183 rfl rfl rfl (Nat.le_of_ble_eq_true rfl) dX11_feed_111 (fun H locs hP hD hS => ?_)
      have hP : va_P g vwCl [(h1, .inr (11, [.int 0, .int (nI (n + 1)), .ref h2, x3, x4, x5, x6, x7, x8, x9, x10, x11, x12, x13, x14, x15, x16, x17, x18, x19, x20, x21, x22, x23, x24, x25, x26, x27, x28, x29, x30, x31, x32, x33, x34, x35, x36, x37, x38, x39, x40, x41, x42, x43, x44, x45, x46, x47, x48, x49, x50, x51, x52, x53, x54, x55, x56, x57, x58, x59, x60, x61, x62, x63, x64, x65, x66, x67, x68, x69, x70, x71, x72, x73])), (h2, .inl (aC 0, 1000, .inl f_94))] H := hP
      have hD : va_D A [(h1, .inr (11, [.int 0, .int (nI (n + 1)), .ref h2, x3, x4, x5, x6, x7, x8, x9, x10, x11, x12, x13, x14, x15, x16, x17, x18, x19, x20, x21, x22, x23, x24, x25, x26, x27, x28, x29, x30, x31, x32, x33, x34, x35, x36, x37, x38, x39, x40, x41, x42, x43, x44, x45, x46, x47, x48, x49, x50, x51, x52, x53, x54, x55, x56, x57, x58, x59, x60, x61, x62, x63, x64, x65, x66, x67, x68, x69, x70, x71, x72, x73])), (h2, .inl (aC 0, 1000, .inl f_94))] := hD
      refine lv_iinc (v := 13) (lv' := [(7, .int 13), (10, .int Sv), (8, .long m_2), (0, .ref h1), (1, .long m_1), (3, .long m_2), (5, .long m_3)]) hx hb dX11_feed_114 hl (k := 2) rfl (by decide +kernel) (by decide) rfl (fun ls hl => ?_)
      refine lv_goto (tgt := 8) hx hb dX11_feed_117 (by decide) ?_
      exact hc13 (n + 1) f_94 _ _ _ (f8_up 4 hn eSv (okb_eq c93)) (by omega) (hP.sub [0, 1] rfl) (hD.sub [0, 1] (by decide) rfl) hS (lv_sub hl [0, 3, 4, 5, 6] rfl)
    · refine lv_iload hx hb dX11_feed_79 (lv_at hl 0 rfl) ?_
      refine lv_bipush (v := 32) hx hb dX11_feed_81 (by decide) ?_
      refine lv_icmp_lt (tgt := 114) hx hb dX11_feed_83 (by decide) (fun c95 => ?_) (fun c95 => ?_)
      · refine lv_iinc (v := 13) (lv' := [(7, .int 13), (10, .int Sv), (8, .long m_2), (0, .ref h1), (1, .long m_1), (3, .long m_2), (5, .long m_3)]) hx hb dX11_feed_114 hl (k := 2) rfl (by decide +kernel) (by decide) rfl (fun ls hl => ?_)
        refine lv_goto (tgt := 8) hx hb dX11_feed_117 (by decide) ?_
        exact hc13 (n) f _ _ _ (f8_st 4 hn eSv (okb_lo c93 c95)) (by omega) (hP.sub [0, 1] rfl) (hD.sub [0, 1] (by decide) rfl) hS (lv_sub hl [0, 3, 4, 5, 6] rfl)
      · refine lv_iload hx hb dX11_feed_86 (lv_at hl 0 rfl) ?_
        refine lv_bipush (v := 126) hx hb dX11_feed_88 (by decide) ?_
        refine lv_icmp_gt (tgt := 114) hx hb dX11_feed_90 (by decide) (fun c96 => ?_) (fun c96 => ?_)
        · refine lv_iinc (v := 13) (lv' := [(7, .int 13), (10, .int Sv), (8, .long m_2), (0, .ref h1), (1, .long m_1), (3, .long m_2), (5, .long m_3)]) hx hb dX11_feed_114 hl (k := 2) rfl (by decide +kernel) (by decide) rfl (fun ls hl => ?_)
          refine lv_goto (tgt := 8) hx hb dX11_feed_117 (by decide) ?_
          exact hc13 (n) f _ _ _ (f8_st 4 hn eSv (okb_hi c93 c96)) (by omega) (hP.sub [0, 1] rfl) (hD.sub [0, 1] (by decide) rfl) hS (lv_sub hl [0, 3, 4, 5, 6] rfl)
        · refine lv_aload_n hx hb dX11_feed_93 rfl (lv_at hl 3 rfl) ?_
          refine xget F hP 0 rfl rfl inX11 2 (by decide) tb1184 rfl dX11_feed_94 ?_
          refine lv_aload_n hx hb dX11_feed_97 rfl (lv_at hl 3 rfl) ?_
          refine xget F hP 0 rfl rfl inX11 1 (by decide) tb1183 rfl dX11_feed_98 ?_
          refine lv_iload hx hb dX11_feed_101 (lv_at hl 0 rfl) ?_
          refine xistE F hP hD hS 1 rfl n (nI_pos (by omega)) (nI_clamp (by omega)) (by omega) dX11_feed_103 (fun f_97 H locs hP hD hS => ?_)
          have hP : va_P g vwCl [(h1, .inr (11, [.int 0, .int (nI n), .ref h2, x3, x4, x5, x6, x7, x8, x9, x10, x11, x12, x13, x14, x15, x16, x17, x18, x19, x20, x21, x22, x23, x24, x25, x26, x27, x28, x29, x30, x31, x32, x33, x34, x35, x36, x37, x38, x39, x40, x41, x42, x43, x44, x45, x46, x47, x48, x49, x50, x51, x52, x53, x54, x55, x56, x57, x58, x59, x60, x61, x62, x63, x64, x65, x66, x67, x68, x69, x70, x71, x72, x73])), (h2, .inl (aC 0, 1000, .inl f_97))] H := hP
          have hD : va_D A [(h1, .inr (11, [.int 0, .int (nI n), .ref h2, x3, x4, x5, x6, x7, x8, x9, x10, x11, x12, x13, x14, x15, x16, x17, x18, x19, x20, x21, x22, x23, x24, x25, x26, x27, x28, x29, x30, x31, x32, x33, x34, x35, x36, x37, x38, x39, x40, x41, x42, x43, x44, x45, x46, x47, x48, x49, x50, x51, x52, x53, x54, x55, x56, x57, x58, x59, x60, x61, x62, x63, x64, x65, x66, x67, x68, x69, x70, x71, x72, x73])), (h2, .inl (aC 0, 1000, .inl f_97))] := hD
          refine lv_aload_n hx hb dX11_feed_104 rfl (lv_at hl 3 rfl) ?_
          refine lv_dup hx hb dX11_feed_105 rfl ?_
          refine xget F hP 0 rfl rfl inX11 1 (by decide) tb1183 rfl dX11_feed_106 ?_
          refine lv_iconst (v := 1) hx hb dX11_feed_109 (by decide) ?_
          refine lv_iadd hx hb dX11_feed_110 ?_
          refine relit (v := (nI (n + 1))) (nadd (a := n) (b := 1) (by omega)) ?_
          refine xput F hP hD hS 0 rfl rfl inX11 tyX11_ok nmX11 1 (by decide) tb1183 rfl rfl rfl (Nat.le_of_ble_eq_true rfl) dX11_feed_111 (fun H locs hP hD hS => ?_)
          have hP : va_P g vwCl [(h1, .inr (11, [.int 0, .int (nI (n + 1)), .ref h2, x3, x4, x5, x6, x7, x8, x9, x10, x11, x12, x13, x14, x15, x16, x17, x18, x19, x20, x21, x22, x23, x24, x25, x26, x27, x28, x29, x30, x31, x32, x33, x34, x35, x36, x37, x38, x39, x40, x41, x42, x43, x44, x45, x46, x47, x48, x49, x50, x51, x52, x53, x54, x55, x56, x57, x58, x59, x60, x61, x62, x63, x64, x65, x66, x67, x68, x69, x70, x71, x72, x73])), (h2, .inl (aC 0, 1000, .inl f_97))] H := hP
          have hD : va_D A [(h1, .inr (11, [.int 0, .int (nI (n + 1)), .ref h2, x3, x4, x5, x6, x7, x8, x9, x10, x11, x12, x13, x14, x15, x16, x17, x18, x19, x20, x21, x22, x23, x24, x25, x26, x27, x28, x29, x30, x31, x32, x33, x34, x35, x36, x37, x38, x39, x40, x41, x42, x43, x44, x45, x46, x47, x48, x49, x50, x51, x52, x53, x54, x55, x56, x57, x58, x59, x60, x61, x62, x63, x64, x65, x66, x67, x68, x69, x70, x71, x72, x73])), (h2, .inl (aC 0, 1000, .inl f_97))] := hD
          refine lv_iinc (v := 13) (lv' := [(7, .int 13), (10, .int Sv), (8, .long m_2), (0, .ref h1), (1, .long m_1), (3, .long m_2), (5, .long m_3)]) hx hb dX11_feed_114 hl (k := 2) rfl (by decide +kernel) (by decide) rfl (fun ls hl => ?_)
          refine lv_goto (tgt := 8) hx hb dX11_feed_117 (by decide) ?_
          exact hc13 (n + 1) f_97 _ _ _ (f8_up 4 hn eSv (okb_in c95 c96)) (by omega) (hP.sub [0, 1] rfl) (hD.sub [0, 1] (by decide) rfl) hS (lv_sub hl [0, 3, 4, 5, 6] rfl)
  have hc11 : ∀ (n : Nat) (f : Nat → Int32) (H : Heap) (locs : List Loc) (ls : Array Slot), n = (0 + f8 m_1 8) + f8 m_2 3 → n ≤ 11 → va_P g vwCl [(h1, .inr (11, [.int 0, .int (nI n), .ref h2, x3, x4, x5, x6, x7, x8, x9, x10, x11, x12, x13, x14, x15, x16, x17, x18, x19, x20, x21, x22, x23, x24, x25, x26, x27, x28, x29, x30, x31, x32, x33, x34, x35, x36, x37, x38, x39, x40, x41, x42, x43, x44, x45, x46, x47, x48, x49, x50, x51, x52, x53, x54, x55, x56, x57, x58, x59, x60, x61, x62, x63, x64, x65, x66, x67, x68, x69, x70, x71, x72, x73])), (h2, .inl (aC 0, 1000, .inl f))] H → va_D A [(h1, .inr (11, [.int 0, .int (nI n), .ref h2, x3, x4, x5, x6, x7, x8, x9, x10, x11, x12, x13, x14, x15, x16, x17, x18, x19, x20, x21, x22, x23, x24, x25, x26, x27, x28, x29, x30, x31, x32, x33, x34, x35, x36, x37, x38, x39, x40, x41, x42, x43, x44, x45, x46, x47, x48, x49, x50, x51, x52, x53, x54, x55, x56, x57, x58, x59, x60, x61, x62, x63, x64, x65, x66, x67, x68, x69, x70, x71, x72, x73])), (h2, .inl (aC 0, 1000, .inl f))] → va_S A s.heap H locs → lv_has ls 11 [(7, .int 11), (0, .ref h1), (1, .long m_1), (3, .long m_2), (5, .long m_3)] → W p l e (rmL 1 0 0) s m [.ref h1, .long m_1, .long m_2, .long m_3].toArray below meth c H locs 0 0 (MQ below (QI g (fun (r : Int32) (_ : Unit) => r = (nI (((0 + f8 m_1 8) + f8 m_2 8) + f8 m_3 8))) (fun (_ : Unit) => []) A) [.ref h1, .long m_1, .long m_2, .long m_3].toArray s 0 0 A) (F0 m 8 ls []) := by
    intro n f H locs ls hn hb_ hP hD hS hl
    refine lv_iload hx hb dX11_feed_8 (lv_at hl 0 rfl) ?_
    refine lv_bipush (v := 24) hx hb dX11_feed_10 (by decide) ?_
    refine lv_icmp_ge (tgt := 120) hx hb dX11_feed_12 (by decide) (fun c_ => absurd c_ (by decide +kernel)) (fun _ => ?_)
    refine lv_iload hx hb dX11_feed_15 (lv_at hl 0 rfl) ?_
    refine lv_bipush (v := 8) hx hb dX11_feed_17 (by decide) ?_
    refine lv_icmp_ge (tgt := 26) hx hb dX11_feed_19 (by decide) (fun _ => ?_) (fun c_ => absurd (by decide +kernel) c_)
    refine lv_iload hx hb dX11_feed_26 (lv_at hl 0 rfl) ?_
    refine lv_bipush (v := 16) hx hb dX11_feed_28 (by decide) ?_
    refine lv_icmp_ge (tgt := 37) hx hb dX11_feed_30 (by decide) (fun c_ => absurd c_ (by decide +kernel)) (fun _ => ?_)
    refine lv_lload_n hx hb dX11_feed_33 rfl (lv_at hl 3 rfl) ?_
    refine lv_goto (tgt := 39) hx hb dX11_feed_34 (by decide) ?_
    refine lv_lstore (lv' := [(8, .long m_2), (7, .int 11), (0, .ref h1), (1, .long m_1), (3, .long m_2), (5, .long m_3)]) hx hb dX11_feed_39 hl (by decide) rfl (fun ls hl => ?_)
    refine lv_lload hx hb dX11_feed_41 (lv_at hl 0 rfl) ?_
    refine lv_bipush (v := 56) hx hb dX11_feed_43 (by decide) ?_
    refine lv_bipush (v := 8) hx hb dX11_feed_45 (by decide) ?_
    refine lv_iload hx hb dX11_feed_47 (lv_at hl 1 rfl) ?_
    refine lv_bipush (v := 7) hx hb dX11_feed_49 (by decide) ?_
    refine lv_iand hx hb dX11_feed_51 ?_
    refine relit (v := 3) (by decide +kernel) ?_
    refine lv_imul hx hb dX11_feed_52 ?_
    refine relit (v := 24) (by decide +kernel) ?_
    refine lv_isub hx hb dX11_feed_53 ?_
    refine relit (v := 32) (by decide +kernel) ?_
    refine lv_lushr (v := ((m_2.toUInt64 >>> ((32 : Int32).toInt64.toUInt64 &&& Int64.toUInt64 63)).toInt64)) hx hb dX11_feed_54 rfl ?_
    refine lv_ldc2 (v := 255) hx hb hown (hts _ tb1414) dX11_feed_55 ?_
    refine lv_land hx hb dX11_feed_58 ?_
    refine lv_l2i (v := ((((m_2.toUInt64 >>> ((32 : Int32).toInt64.toUInt64 &&& Int64.toUInt64 63)).toInt64) &&& 255).toInt32)) hx hb dX11_feed_59 rfl ?_
    obtain ⟨Sv, eSv⟩ : ∃ z : Int32, z = ((((m_2.toUInt64 >>> ((32 : Int32).toInt64.toUInt64 &&& Int64.toUInt64 63)).toInt64) &&& 255).toInt32) := ⟨_, rfl⟩
    refine relit (v := Sv) eSv.symm ?_
    refine lv_istore (lv' := [(10, .int Sv), (8, .long m_2), (7, .int 11), (0, .ref h1), (1, .long m_1), (3, .long m_2), (5, .long m_3)]) hx hb dX11_feed_60 hl (by decide) rfl (fun ls hl => ?_)
    refine lv_aload_n hx hb dX11_feed_62 rfl (lv_at hl 3 rfl) ?_
    refine xget F hP 0 rfl rfl inX11 1 (by decide) tb1183 rfl dX11_feed_63 ?_
    refine lv_sipush (v := 1000) hx hb dX11_feed_66 (by decide) ?_
    refine lv_icmp_ge (tgt := 114) hx hb dX11_feed_69 (by decide) (fun c_ => absurd c_ (show ¬ (nI 1000 ≤ nI n) by rw [nI_leI (by omega) (by omega)]; omega)) (fun _ => ?_)
    refine lv_iload hx hb dX11_feed_72 (lv_at hl 0 rfl) ?_
    refine lv_bipush (v := 10) hx hb dX11_feed_74 (by decide) ?_
    refine lv_icmp_eq (tgt := 93) hx hb dX11_feed_76 (by decide) (fun c101 => ?_) (fun c101 => ?_)
    · refine lv_aload_n hx hb dX11_feed_93 rfl (lv_at hl 3 rfl) ?_
      refine xget F hP 0 rfl rfl inX11 2 (by decide) tb1184 rfl dX11_feed_94 ?_
      refine lv_aload_n hx hb dX11_feed_97 rfl (lv_at hl 3 rfl) ?_
      refine xget F hP 0 rfl rfl inX11 1 (by decide) tb1183 rfl dX11_feed_98 ?_
      refine lv_iload hx hb dX11_feed_101 (lv_at hl 0 rfl) ?_
      refine xistE F hP hD hS 1 rfl n (nI_pos (by omega)) (nI_clamp (by omega)) (by omega) dX11_feed_103 (fun f_102 H locs hP hD hS => ?_)
      have hP : va_P g vwCl [(h1, .inr (11, [.int 0, .int (nI n), .ref h2, x3, x4, x5, x6, x7, x8, x9, x10, x11, x12, x13, x14, x15, x16, x17, x18, x19, x20, x21, x22, x23, x24, x25, x26, x27, x28, x29, x30, x31, x32, x33, x34, x35, x36, x37, x38, x39, x40, x41, x42, x43, x44, x45, x46, x47, x48, x49, x50, x51, x52, x53, x54, x55, x56, x57, x58, x59, x60, x61, x62, x63, x64, x65, x66, x67, x68, x69, x70, x71, x72, x73])), (h2, .inl (aC 0, 1000, .inl f_102))] H := hP
      have hD : va_D A [(h1, .inr (11, [.int 0, .int (nI n), .ref h2, x3, x4, x5, x6, x7, x8, x9, x10, x11, x12, x13, x14, x15, x16, x17, x18, x19, x20, x21, x22, x23, x24, x25, x26, x27, x28, x29, x30, x31, x32, x33, x34, x35, x36, x37, x38, x39, x40, x41, x42, x43, x44, x45, x46, x47, x48, x49, x50, x51, x52, x53, x54, x55, x56, x57, x58, x59, x60, x61, x62, x63, x64, x65, x66, x67, x68, x69, x70, x71, x72, x73])), (h2, .inl (aC 0, 1000, .inl f_102))] := hD
      refine lv_aload_n hx hb dX11_feed_104 rfl (lv_at hl 3 rfl) ?_
      refine lv_dup hx hb dX11_feed_105 rfl ?_
      refine xget F hP 0 rfl rfl inX11 1 (by decide) tb1183 rfl dX11_feed_106 ?_
      refine lv_iconst (v := 1) hx hb dX11_feed_109 (by decide) ?_
      refine lv_iadd hx hb dX11_feed_110 ?_
      refine relit (v := (nI (n + 1))) (nadd (a := n) (b := 1) (by omega)) ?_
      refine xput F hP hD hS 0 rfl rfl inX11 tyX11_ok nmX11 1 (by decide) tb1183 rfl rfl rfl (Nat.le_of_ble_eq_true rfl) dX11_feed_111 (fun H locs hP hD hS => ?_)
      have hP : va_P g vwCl [(h1, .inr (11, [.int 0, .int (nI (n + 1)), .ref h2, x3, x4, x5, x6, x7, x8, x9, x10, x11, x12, x13, x14, x15, x16, x17, x18, x19, x20, x21, x22, x23, x24, x25, x26, x27, x28, x29, x30, x31, x32, x33, x34, x35, x36, x37, x38, x39, x40, x41, x42, x43, x44, x45, x46, x47, x48, x49, x50, x51, x52, x53, x54, x55, x56, x57, x58, x59, x60, x61, x62, x63, x64, x65, x66, x67, x68, x69, x70, x71, x72, x73])), (h2, .inl (aC 0, 1000, .inl f_102))] H := hP
      have hD : va_D A [(h1, .inr (11, [.int 0, .int (nI (n + 1)), .ref h2, x3, x4, x5, x6, x7, x8, x9, x10, x11, x12, x13, x14, x15, x16, x17, x18, x19, x20, x21, x22, x23, x24, x25, x26, x27, x28, x29, x30, x31, x32, x33, x34, x35, x36, x37, x38, x39, x40, x41, x42, x43, x44, x45, x46, x47, x48, x49, x50, x51, x52, x53, x54, x55, x56, x57, x58, x59, x60, x61, x62, x63, x64, x65, x66, x67, x68, x69, x70, x71, x72, x73])), (h2, .inl (aC 0, 1000, .inl f_102))] := hD
      refine lv_iinc (v := 12) (lv' := [(7, .int 12), (10, .int Sv), (8, .long m_2), (0, .ref h1), (1, .long m_1), (3, .long m_2), (5, .long m_3)]) hx hb dX11_feed_114 hl (k := 2) rfl (by decide +kernel) (by decide) rfl (fun ls hl => ?_)
      refine lv_goto (tgt := 8) hx hb dX11_feed_117 (by decide) ?_
      exact hc12 (n + 1) f_102 _ _ _ (f8_up 3 hn eSv (okb_eq c101)) (by omega) (hP.sub [0, 1] rfl) (hD.sub [0, 1] (by decide) rfl) hS (lv_sub hl [0, 3, 4, 5, 6] rfl)
    · refine lv_iload hx hb dX11_feed_79 (lv_at hl 0 rfl) ?_
      refine lv_bipush (v := 32) hx hb dX11_feed_81 (by decide) ?_
      refine lv_icmp_lt (tgt := 114) hx hb dX11_feed_83 (by decide) (fun c103 => ?_) (fun c103 => ?_)
      · refine lv_iinc (v := 12) (lv' := [(7, .int 12), (10, .int Sv), (8, .long m_2), (0, .ref h1), (1, .long m_1), (3, .long m_2), (5, .long m_3)]) hx hb dX11_feed_114 hl (k := 2) rfl (by decide +kernel) (by decide) rfl (fun ls hl => ?_)
        refine lv_goto (tgt := 8) hx hb dX11_feed_117 (by decide) ?_
        exact hc12 (n) f _ _ _ (f8_st 3 hn eSv (okb_lo c101 c103)) (by omega) (hP.sub [0, 1] rfl) (hD.sub [0, 1] (by decide) rfl) hS (lv_sub hl [0, 3, 4, 5, 6] rfl)
      · refine lv_iload hx hb dX11_feed_86 (lv_at hl 0 rfl) ?_
        refine lv_bipush (v := 126) hx hb dX11_feed_88 (by decide) ?_
        refine lv_icmp_gt (tgt := 114) hx hb dX11_feed_90 (by decide) (fun c104 => ?_) (fun c104 => ?_)
        · refine lv_iinc (v := 12) (lv' := [(7, .int 12), (10, .int Sv), (8, .long m_2), (0, .ref h1), (1, .long m_1), (3, .long m_2), (5, .long m_3)]) hx hb dX11_feed_114 hl (k := 2) rfl (by decide +kernel) (by decide) rfl (fun ls hl => ?_)
          refine lv_goto (tgt := 8) hx hb dX11_feed_117 (by decide) ?_
          exact hc12 (n) f _ _ _ (f8_st 3 hn eSv (okb_hi c101 c104)) (by omega) (hP.sub [0, 1] rfl) (hD.sub [0, 1] (by decide) rfl) hS (lv_sub hl [0, 3, 4, 5, 6] rfl)
        · refine lv_aload_n hx hb dX11_feed_93 rfl (lv_at hl 3 rfl) ?_
          refine xget F hP 0 rfl rfl inX11 2 (by decide) tb1184 rfl dX11_feed_94 ?_
          refine lv_aload_n hx hb dX11_feed_97 rfl (lv_at hl 3 rfl) ?_
          refine xget F hP 0 rfl rfl inX11 1 (by decide) tb1183 rfl dX11_feed_98 ?_
          refine lv_iload hx hb dX11_feed_101 (lv_at hl 0 rfl) ?_
          refine xistE F hP hD hS 1 rfl n (nI_pos (by omega)) (nI_clamp (by omega)) (by omega) dX11_feed_103 (fun f_105 H locs hP hD hS => ?_)
          have hP : va_P g vwCl [(h1, .inr (11, [.int 0, .int (nI n), .ref h2, x3, x4, x5, x6, x7, x8, x9, x10, x11, x12, x13, x14, x15, x16, x17, x18, x19, x20, x21, x22, x23, x24, x25, x26, x27, x28, x29, x30, x31, x32, x33, x34, x35, x36, x37, x38, x39, x40, x41, x42, x43, x44, x45, x46, x47, x48, x49, x50, x51, x52, x53, x54, x55, x56, x57, x58, x59, x60, x61, x62, x63, x64, x65, x66, x67, x68, x69, x70, x71, x72, x73])), (h2, .inl (aC 0, 1000, .inl f_105))] H := hP
          have hD : va_D A [(h1, .inr (11, [.int 0, .int (nI n), .ref h2, x3, x4, x5, x6, x7, x8, x9, x10, x11, x12, x13, x14, x15, x16, x17, x18, x19, x20, x21, x22, x23, x24, x25, x26, x27, x28, x29, x30, x31, x32, x33, x34, x35, x36, x37, x38, x39, x40, x41, x42, x43, x44, x45, x46, x47, x48, x49, x50, x51, x52, x53, x54, x55, x56, x57, x58, x59, x60, x61, x62, x63, x64, x65, x66, x67, x68, x69, x70, x71, x72, x73])), (h2, .inl (aC 0, 1000, .inl f_105))] := hD
          refine lv_aload_n hx hb dX11_feed_104 rfl (lv_at hl 3 rfl) ?_
          refine lv_dup hx hb dX11_feed_105 rfl ?_
          refine xget F hP 0 rfl rfl inX11 1 (by decide) tb1183 rfl dX11_feed_106 ?_
          refine lv_iconst (v := 1) hx hb dX11_feed_109 (by decide) ?_
          refine lv_iadd hx hb dX11_feed_110 ?_
          refine relit (v := (nI (n + 1))) (nadd (a := n) (b := 1) (by omega)) ?_
          refine xput F hP hD hS 0 rfl rfl inX11 tyX11_ok nmX11 1 (by decide) tb1183 rfl rfl rfl (Nat.le_of_ble_eq_true rfl) dX11_feed_111 (fun H locs hP hD hS => ?_)
          have hP : va_P g vwCl [(h1, .inr (11, [.int 0, .int (nI (n + 1)), .ref h2, x3, x4, x5, x6, x7, x8, x9, x10, x11, x12, x13, x14, x15, x16, x17, x18, x19, x20, x21, x22, x23, x24, x25, x26, x27, x28, x29, x30, x31, x32, x33, x34, x35, x36, x37, x38, x39, x40, x41, x42, x43, x44, x45, x46, x47, x48, x49, x50, x51, x52, x53, x54, x55, x56, x57, x58, x59, x60, x61, x62, x63, x64, x65, x66, x67, x68, x69, x70, x71, x72, x73])), (h2, .inl (aC 0, 1000, .inl f_105))] H := hP
          have hD : va_D A [(h1, .inr (11, [.int 0, .int (nI (n + 1)), .ref h2, x3, x4, x5, x6, x7, x8, x9, x10, x11, x12, x13, x14, x15, x16, x17, x18, x19, x20, x21, x22, x23, x24, x25, x26, x27, x28, x29, x30, x31, x32, x33, x34, x35, x36, x37, x38, x39, x40, x41, x42, x43, x44, x45, x46, x47, x48, x49, x50, x51, x52, x53, x54, x55, x56, x57, x58, x59, x60, x61, x62, x63, x64, x65, x66, x67, x68, x69, x70, x71, x72, x73])), (h2, .inl (aC 0, 1000, .inl f_105))] := hD
          refine lv_iinc (v := 12) (lv' := [(7, .int 12), (10, .int Sv), (8, .long m_2), (0, .ref h1), (1, .long m_1), (3, .long m_2), (5, .long m_3)]) hx hb dX11_feed_114 hl (k := 2) rfl (by decide +kernel) (by decide) rfl (fun ls hl => ?_)
          refine lv_goto (tgt := 8) hx hb dX11_feed_117 (by decide) ?_
          exact hc12 (n + 1) f_105 _ _ _ (f8_up 3 hn eSv (okb_in c103 c104)) (by omega) (hP.sub [0, 1] rfl) (hD.sub [0, 1] (by decide) rfl) hS (lv_sub hl [0, 3, 4, 5, 6] rfl)
  have hc10 : ∀ (n : Nat) (f : Nat → Int32) (H : Heap) (locs : List Loc) (ls : Array Slot), n = (0 + f8 m_1 8) + f8 m_2 2 → n ≤ 10 → va_P g vwCl [(h1, .inr (11, [.int 0, .int (nI n), .ref h2, x3, x4, x5, x6, x7, x8, x9, x10, x11, x12, x13, x14, x15, x16, x17, x18, x19, x20, x21, x22, x23, x24, x25, x26, x27, x28, x29, x30, x31, x32, x33, x34, x35, x36, x37, x38, x39, x40, x41, x42, x43, x44, x45, x46, x47, x48, x49, x50, x51, x52, x53, x54, x55, x56, x57, x58, x59, x60, x61, x62, x63, x64, x65, x66, x67, x68, x69, x70, x71, x72, x73])), (h2, .inl (aC 0, 1000, .inl f))] H → va_D A [(h1, .inr (11, [.int 0, .int (nI n), .ref h2, x3, x4, x5, x6, x7, x8, x9, x10, x11, x12, x13, x14, x15, x16, x17, x18, x19, x20, x21, x22, x23, x24, x25, x26, x27, x28, x29, x30, x31, x32, x33, x34, x35, x36, x37, x38, x39, x40, x41, x42, x43, x44, x45, x46, x47, x48, x49, x50, x51, x52, x53, x54, x55, x56, x57, x58, x59, x60, x61, x62, x63, x64, x65, x66, x67, x68, x69, x70, x71, x72, x73])), (h2, .inl (aC 0, 1000, .inl f))] → va_S A s.heap H locs → lv_has ls 11 [(7, .int 10), (0, .ref h1), (1, .long m_1), (3, .long m_2), (5, .long m_3)] → W p l e (rmL 1 0 0) s m [.ref h1, .long m_1, .long m_2, .long m_3].toArray below meth c H locs 0 0 (MQ below (QI g (fun (r : Int32) (_ : Unit) => r = (nI (((0 + f8 m_1 8) + f8 m_2 8) + f8 m_3 8))) (fun (_ : Unit) => []) A) [.ref h1, .long m_1, .long m_2, .long m_3].toArray s 0 0 A) (F0 m 8 ls []) := by
    intro n f H locs ls hn hb_ hP hD hS hl
    refine lv_iload hx hb dX11_feed_8 (lv_at hl 0 rfl) ?_
    refine lv_bipush (v := 24) hx hb dX11_feed_10 (by decide) ?_
    refine lv_icmp_ge (tgt := 120) hx hb dX11_feed_12 (by decide) (fun c_ => absurd c_ (by decide +kernel)) (fun _ => ?_)
    refine lv_iload hx hb dX11_feed_15 (lv_at hl 0 rfl) ?_
    refine lv_bipush (v := 8) hx hb dX11_feed_17 (by decide) ?_
    refine lv_icmp_ge (tgt := 26) hx hb dX11_feed_19 (by decide) (fun _ => ?_) (fun c_ => absurd (by decide +kernel) c_)
    refine lv_iload hx hb dX11_feed_26 (lv_at hl 0 rfl) ?_
    refine lv_bipush (v := 16) hx hb dX11_feed_28 (by decide) ?_
    refine lv_icmp_ge (tgt := 37) hx hb dX11_feed_30 (by decide) (fun c_ => absurd c_ (by decide +kernel)) (fun _ => ?_)
    refine lv_lload_n hx hb dX11_feed_33 rfl (lv_at hl 3 rfl) ?_
    refine lv_goto (tgt := 39) hx hb dX11_feed_34 (by decide) ?_
    refine lv_lstore (lv' := [(8, .long m_2), (7, .int 10), (0, .ref h1), (1, .long m_1), (3, .long m_2), (5, .long m_3)]) hx hb dX11_feed_39 hl (by decide) rfl (fun ls hl => ?_)
    refine lv_lload hx hb dX11_feed_41 (lv_at hl 0 rfl) ?_
    refine lv_bipush (v := 56) hx hb dX11_feed_43 (by decide) ?_
    refine lv_bipush (v := 8) hx hb dX11_feed_45 (by decide) ?_
    refine lv_iload hx hb dX11_feed_47 (lv_at hl 1 rfl) ?_
    refine lv_bipush (v := 7) hx hb dX11_feed_49 (by decide) ?_
    refine lv_iand hx hb dX11_feed_51 ?_
    refine relit (v := 2) (by decide +kernel) ?_
    refine lv_imul hx hb dX11_feed_52 ?_
    refine relit (v := 16) (by decide +kernel) ?_
    refine lv_isub hx hb dX11_feed_53 ?_
    refine relit (v := 40) (by decide +kernel) ?_
    refine lv_lushr (v := ((m_2.toUInt64 >>> ((40 : Int32).toInt64.toUInt64 &&& Int64.toUInt64 63)).toInt64)) hx hb dX11_feed_54 rfl ?_
    refine lv_ldc2 (v := 255) hx hb hown (hts _ tb1414) dX11_feed_55 ?_
    refine lv_land hx hb dX11_feed_58 ?_
    refine lv_l2i (v := ((((m_2.toUInt64 >>> ((40 : Int32).toInt64.toUInt64 &&& Int64.toUInt64 63)).toInt64) &&& 255).toInt32)) hx hb dX11_feed_59 rfl ?_
    obtain ⟨Sv, eSv⟩ : ∃ z : Int32, z = ((((m_2.toUInt64 >>> ((40 : Int32).toInt64.toUInt64 &&& Int64.toUInt64 63)).toInt64) &&& 255).toInt32) := ⟨_, rfl⟩
    refine relit (v := Sv) eSv.symm ?_
    refine lv_istore (lv' := [(10, .int Sv), (8, .long m_2), (7, .int 10), (0, .ref h1), (1, .long m_1), (3, .long m_2), (5, .long m_3)]) hx hb dX11_feed_60 hl (by decide) rfl (fun ls hl => ?_)
    refine lv_aload_n hx hb dX11_feed_62 rfl (lv_at hl 3 rfl) ?_
    refine xget F hP 0 rfl rfl inX11 1 (by decide) tb1183 rfl dX11_feed_63 ?_
    refine lv_sipush (v := 1000) hx hb dX11_feed_66 (by decide) ?_
    refine lv_icmp_ge (tgt := 114) hx hb dX11_feed_69 (by decide) (fun c_ => absurd c_ (show ¬ (nI 1000 ≤ nI n) by rw [nI_leI (by omega) (by omega)]; omega)) (fun _ => ?_)
    refine lv_iload hx hb dX11_feed_72 (lv_at hl 0 rfl) ?_
    refine lv_bipush (v := 10) hx hb dX11_feed_74 (by decide) ?_
    refine lv_icmp_eq (tgt := 93) hx hb dX11_feed_76 (by decide) (fun c109 => ?_) (fun c109 => ?_)
    · refine lv_aload_n hx hb dX11_feed_93 rfl (lv_at hl 3 rfl) ?_
      refine xget F hP 0 rfl rfl inX11 2 (by decide) tb1184 rfl dX11_feed_94 ?_
      refine lv_aload_n hx hb dX11_feed_97 rfl (lv_at hl 3 rfl) ?_
      refine xget F hP 0 rfl rfl inX11 1 (by decide) tb1183 rfl dX11_feed_98 ?_
      refine lv_iload hx hb dX11_feed_101 (lv_at hl 0 rfl) ?_
      refine xistE F hP hD hS 1 rfl n (nI_pos (by omega)) (nI_clamp (by omega)) (by omega) dX11_feed_103 (fun f_110 H locs hP hD hS => ?_)
      have hP : va_P g vwCl [(h1, .inr (11, [.int 0, .int (nI n), .ref h2, x3, x4, x5, x6, x7, x8, x9, x10, x11, x12, x13, x14, x15, x16, x17, x18, x19, x20, x21, x22, x23, x24, x25, x26, x27, x28, x29, x30, x31, x32, x33, x34, x35, x36, x37, x38, x39, x40, x41, x42, x43, x44, x45, x46, x47, x48, x49, x50, x51, x52, x53, x54, x55, x56, x57, x58, x59, x60, x61, x62, x63, x64, x65, x66, x67, x68, x69, x70, x71, x72, x73])), (h2, .inl (aC 0, 1000, .inl f_110))] H := hP
      have hD : va_D A [(h1, .inr (11, [.int 0, .int (nI n), .ref h2, x3, x4, x5, x6, x7, x8, x9, x10, x11, x12, x13, x14, x15, x16, x17, x18, x19, x20, x21, x22, x23, x24, x25, x26, x27, x28, x29, x30, x31, x32, x33, x34, x35, x36, x37, x38, x39, x40, x41, x42, x43, x44, x45, x46, x47, x48, x49, x50, x51, x52, x53, x54, x55, x56, x57, x58, x59, x60, x61, x62, x63, x64, x65, x66, x67, x68, x69, x70, x71, x72, x73])), (h2, .inl (aC 0, 1000, .inl f_110))] := hD
      refine lv_aload_n hx hb dX11_feed_104 rfl (lv_at hl 3 rfl) ?_
      refine lv_dup hx hb dX11_feed_105 rfl ?_
      refine xget F hP 0 rfl rfl inX11 1 (by decide) tb1183 rfl dX11_feed_106 ?_
      refine lv_iconst (v := 1) hx hb dX11_feed_109 (by decide) ?_
      refine lv_iadd hx hb dX11_feed_110 ?_
      refine relit (v := (nI (n + 1))) (nadd (a := n) (b := 1) (by omega)) ?_
      refine xput F hP hD hS 0 rfl rfl inX11 tyX11_ok nmX11 1 (by decide) tb1183 rfl rfl rfl (Nat.le_of_ble_eq_true rfl) dX11_feed_111 (fun H locs hP hD hS => ?_)
      have hP : va_P g vwCl [(h1, .inr (11, [.int 0, .int (nI (n + 1)), .ref h2, x3, x4, x5, x6, x7, x8, x9, x10, x11, x12, x13, x14, x15, x16, x17, x18, x19, x20, x21, x22, x23, x24, x25, x26, x27, x28, x29, x30, x31, x32, x33, x34, x35, x36, x37, x38, x39, x40, x41, x42, x43, x44, x45, x46, x47, x48, x49, x50, x51, x52, x53, x54, x55, x56, x57, x58, x59, x60, x61, x62, x63, x64, x65, x66, x67, x68, x69, x70, x71, x72, x73])), (h2, .inl (aC 0, 1000, .inl f_110))] H := hP
      have hD : va_D A [(h1, .inr (11, [.int 0, .int (nI (n + 1)), .ref h2, x3, x4, x5, x6, x7, x8, x9, x10, x11, x12, x13, x14, x15, x16, x17, x18, x19, x20, x21, x22, x23, x24, x25, x26, x27, x28, x29, x30, x31, x32, x33, x34, x35, x36, x37, x38, x39, x40, x41, x42, x43, x44, x45, x46, x47, x48, x49, x50, x51, x52, x53, x54, x55, x56, x57, x58, x59, x60, x61, x62, x63, x64, x65, x66, x67, x68, x69, x70, x71, x72, x73])), (h2, .inl (aC 0, 1000, .inl f_110))] := hD
      refine lv_iinc (v := 11) (lv' := [(7, .int 11), (10, .int Sv), (8, .long m_2), (0, .ref h1), (1, .long m_1), (3, .long m_2), (5, .long m_3)]) hx hb dX11_feed_114 hl (k := 2) rfl (by decide +kernel) (by decide) rfl (fun ls hl => ?_)
      refine lv_goto (tgt := 8) hx hb dX11_feed_117 (by decide) ?_
      exact hc11 (n + 1) f_110 _ _ _ (f8_up 2 hn eSv (okb_eq c109)) (by omega) (hP.sub [0, 1] rfl) (hD.sub [0, 1] (by decide) rfl) hS (lv_sub hl [0, 3, 4, 5, 6] rfl)
    · refine lv_iload hx hb dX11_feed_79 (lv_at hl 0 rfl) ?_
      refine lv_bipush (v := 32) hx hb dX11_feed_81 (by decide) ?_
      refine lv_icmp_lt (tgt := 114) hx hb dX11_feed_83 (by decide) (fun c111 => ?_) (fun c111 => ?_)
      · refine lv_iinc (v := 11) (lv' := [(7, .int 11), (10, .int Sv), (8, .long m_2), (0, .ref h1), (1, .long m_1), (3, .long m_2), (5, .long m_3)]) hx hb dX11_feed_114 hl (k := 2) rfl (by decide +kernel) (by decide) rfl (fun ls hl => ?_)
        refine lv_goto (tgt := 8) hx hb dX11_feed_117 (by decide) ?_
        exact hc11 (n) f _ _ _ (f8_st 2 hn eSv (okb_lo c109 c111)) (by omega) (hP.sub [0, 1] rfl) (hD.sub [0, 1] (by decide) rfl) hS (lv_sub hl [0, 3, 4, 5, 6] rfl)
      · refine lv_iload hx hb dX11_feed_86 (lv_at hl 0 rfl) ?_
        refine lv_bipush (v := 126) hx hb dX11_feed_88 (by decide) ?_
        refine lv_icmp_gt (tgt := 114) hx hb dX11_feed_90 (by decide) (fun c112 => ?_) (fun c112 => ?_)
        · refine lv_iinc (v := 11) (lv' := [(7, .int 11), (10, .int Sv), (8, .long m_2), (0, .ref h1), (1, .long m_1), (3, .long m_2), (5, .long m_3)]) hx hb dX11_feed_114 hl (k := 2) rfl (by decide +kernel) (by decide) rfl (fun ls hl => ?_)
          refine lv_goto (tgt := 8) hx hb dX11_feed_117 (by decide) ?_
          exact hc11 (n) f _ _ _ (f8_st 2 hn eSv (okb_hi c109 c112)) (by omega) (hP.sub [0, 1] rfl) (hD.sub [0, 1] (by decide) rfl) hS (lv_sub hl [0, 3, 4, 5, 6] rfl)
        · refine lv_aload_n hx hb dX11_feed_93 rfl (lv_at hl 3 rfl) ?_
          refine xget F hP 0 rfl rfl inX11 2 (by decide) tb1184 rfl dX11_feed_94 ?_
          refine lv_aload_n hx hb dX11_feed_97 rfl (lv_at hl 3 rfl) ?_
          refine xget F hP 0 rfl rfl inX11 1 (by decide) tb1183 rfl dX11_feed_98 ?_
          refine lv_iload hx hb dX11_feed_101 (lv_at hl 0 rfl) ?_
          refine xistE F hP hD hS 1 rfl n (nI_pos (by omega)) (nI_clamp (by omega)) (by omega) dX11_feed_103 (fun f_113 H locs hP hD hS => ?_)
          have hP : va_P g vwCl [(h1, .inr (11, [.int 0, .int (nI n), .ref h2, x3, x4, x5, x6, x7, x8, x9, x10, x11, x12, x13, x14, x15, x16, x17, x18, x19, x20, x21, x22, x23, x24, x25, x26, x27, x28, x29, x30, x31, x32, x33, x34, x35, x36, x37, x38, x39, x40, x41, x42, x43, x44, x45, x46, x47, x48, x49, x50, x51, x52, x53, x54, x55, x56, x57, x58, x59, x60, x61, x62, x63, x64, x65, x66, x67, x68, x69, x70, x71, x72, x73])), (h2, .inl (aC 0, 1000, .inl f_113))] H := hP
          have hD : va_D A [(h1, .inr (11, [.int 0, .int (nI n), .ref h2, x3, x4, x5, x6, x7, x8, x9, x10, x11, x12, x13, x14, x15, x16, x17, x18, x19, x20, x21, x22, x23, x24, x25, x26, x27, x28, x29, x30, x31, x32, x33, x34, x35, x36, x37, x38, x39, x40, x41, x42, x43, x44, x45, x46, x47, x48, x49, x50, x51, x52, x53, x54, x55, x56, x57, x58, x59, x60, x61, x62, x63, x64, x65, x66, x67, x68, x69, x70, x71, x72, x73])), (h2, .inl (aC 0, 1000, .inl f_113))] := hD
          refine lv_aload_n hx hb dX11_feed_104 rfl (lv_at hl 3 rfl) ?_
          refine lv_dup hx hb dX11_feed_105 rfl ?_
          refine xget F hP 0 rfl rfl inX11 1 (by decide) tb1183 rfl dX11_feed_106 ?_
          refine lv_iconst (v := 1) hx hb dX11_feed_109 (by decide) ?_
          refine lv_iadd hx hb dX11_feed_110 ?_
          refine relit (v := (nI (n + 1))) (nadd (a := n) (b := 1) (by omega)) ?_
          refine xput F hP hD hS 0 rfl rfl inX11 tyX11_ok nmX11 1 (by decide) tb1183 rfl rfl rfl (Nat.le_of_ble_eq_true rfl) dX11_feed_111 (fun H locs hP hD hS => ?_)
          have hP : va_P g vwCl [(h1, .inr (11, [.int 0, .int (nI (n + 1)), .ref h2, x3, x4, x5, x6, x7, x8, x9, x10, x11, x12, x13, x14, x15, x16, x17, x18, x19, x20, x21, x22, x23, x24, x25, x26, x27, x28, x29, x30, x31, x32, x33, x34, x35, x36, x37, x38, x39, x40, x41, x42, x43, x44, x45, x46, x47, x48, x49, x50, x51, x52, x53, x54, x55, x56, x57, x58, x59, x60, x61, x62, x63, x64, x65, x66, x67, x68, x69, x70, x71, x72, x73])), (h2, .inl (aC 0, 1000, .inl f_113))] H := hP
          have hD : va_D A [(h1, .inr (11, [.int 0, .int (nI (n + 1)), .ref h2, x3, x4, x5, x6, x7, x8, x9, x10, x11, x12, x13, x14, x15, x16, x17, x18, x19, x20, x21, x22, x23, x24, x25, x26, x27, x28, x29, x30, x31, x32, x33, x34, x35, x36, x37, x38, x39, x40, x41, x42, x43, x44, x45, x46, x47, x48, x49, x50, x51, x52, x53, x54, x55, x56, x57, x58, x59, x60, x61, x62, x63, x64, x65, x66, x67, x68, x69, x70, x71, x72, x73])), (h2, .inl (aC 0, 1000, .inl f_113))] := hD
          refine lv_iinc (v := 11) (lv' := [(7, .int 11), (10, .int Sv), (8, .long m_2), (0, .ref h1), (1, .long m_1), (3, .long m_2), (5, .long m_3)]) hx hb dX11_feed_114 hl (k := 2) rfl (by decide +kernel) (by decide) rfl (fun ls hl => ?_)
          refine lv_goto (tgt := 8) hx hb dX11_feed_117 (by decide) ?_
          exact hc11 (n + 1) f_113 _ _ _ (f8_up 2 hn eSv (okb_in c111 c112)) (by omega) (hP.sub [0, 1] rfl) (hD.sub [0, 1] (by decide) rfl) hS (lv_sub hl [0, 3, 4, 5, 6] rfl)
  have hc9 : ∀ (n : Nat) (f : Nat → Int32) (H : Heap) (locs : List Loc) (ls : Array Slot), n = (0 + f8 m_1 8) + f8 m_2 1 → n ≤ 9 → va_P g vwCl [(h1, .inr (11, [.int 0, .int (nI n), .ref h2, x3, x4, x5, x6, x7, x8, x9, x10, x11, x12, x13, x14, x15, x16, x17, x18, x19, x20, x21, x22, x23, x24, x25, x26, x27, x28, x29, x30, x31, x32, x33, x34, x35, x36, x37, x38, x39, x40, x41, x42, x43, x44, x45, x46, x47, x48, x49, x50, x51, x52, x53, x54, x55, x56, x57, x58, x59, x60, x61, x62, x63, x64, x65, x66, x67, x68, x69, x70, x71, x72, x73])), (h2, .inl (aC 0, 1000, .inl f))] H → va_D A [(h1, .inr (11, [.int 0, .int (nI n), .ref h2, x3, x4, x5, x6, x7, x8, x9, x10, x11, x12, x13, x14, x15, x16, x17, x18, x19, x20, x21, x22, x23, x24, x25, x26, x27, x28, x29, x30, x31, x32, x33, x34, x35, x36, x37, x38, x39, x40, x41, x42, x43, x44, x45, x46, x47, x48, x49, x50, x51, x52, x53, x54, x55, x56, x57, x58, x59, x60, x61, x62, x63, x64, x65, x66, x67, x68, x69, x70, x71, x72, x73])), (h2, .inl (aC 0, 1000, .inl f))] → va_S A s.heap H locs → lv_has ls 11 [(7, .int 9), (0, .ref h1), (1, .long m_1), (3, .long m_2), (5, .long m_3)] → W p l e (rmL 1 0 0) s m [.ref h1, .long m_1, .long m_2, .long m_3].toArray below meth c H locs 0 0 (MQ below (QI g (fun (r : Int32) (_ : Unit) => r = (nI (((0 + f8 m_1 8) + f8 m_2 8) + f8 m_3 8))) (fun (_ : Unit) => []) A) [.ref h1, .long m_1, .long m_2, .long m_3].toArray s 0 0 A) (F0 m 8 ls []) := by
    intro n f H locs ls hn hb_ hP hD hS hl
    refine lv_iload hx hb dX11_feed_8 (lv_at hl 0 rfl) ?_
    refine lv_bipush (v := 24) hx hb dX11_feed_10 (by decide) ?_
    refine lv_icmp_ge (tgt := 120) hx hb dX11_feed_12 (by decide) (fun c_ => absurd c_ (by decide +kernel)) (fun _ => ?_)
    refine lv_iload hx hb dX11_feed_15 (lv_at hl 0 rfl) ?_
    refine lv_bipush (v := 8) hx hb dX11_feed_17 (by decide) ?_
    refine lv_icmp_ge (tgt := 26) hx hb dX11_feed_19 (by decide) (fun _ => ?_) (fun c_ => absurd (by decide +kernel) c_)
    refine lv_iload hx hb dX11_feed_26 (lv_at hl 0 rfl) ?_
    refine lv_bipush (v := 16) hx hb dX11_feed_28 (by decide) ?_
    refine lv_icmp_ge (tgt := 37) hx hb dX11_feed_30 (by decide) (fun c_ => absurd c_ (by decide +kernel)) (fun _ => ?_)
    refine lv_lload_n hx hb dX11_feed_33 rfl (lv_at hl 3 rfl) ?_
    refine lv_goto (tgt := 39) hx hb dX11_feed_34 (by decide) ?_
    refine lv_lstore (lv' := [(8, .long m_2), (7, .int 9), (0, .ref h1), (1, .long m_1), (3, .long m_2), (5, .long m_3)]) hx hb dX11_feed_39 hl (by decide) rfl (fun ls hl => ?_)
    refine lv_lload hx hb dX11_feed_41 (lv_at hl 0 rfl) ?_
    refine lv_bipush (v := 56) hx hb dX11_feed_43 (by decide) ?_
    refine lv_bipush (v := 8) hx hb dX11_feed_45 (by decide) ?_
    refine lv_iload hx hb dX11_feed_47 (lv_at hl 1 rfl) ?_
    refine lv_bipush (v := 7) hx hb dX11_feed_49 (by decide) ?_
    refine lv_iand hx hb dX11_feed_51 ?_
    refine relit (v := 1) (by decide +kernel) ?_
    refine lv_imul hx hb dX11_feed_52 ?_
    refine relit (v := 8) (by decide +kernel) ?_
    refine lv_isub hx hb dX11_feed_53 ?_
    refine relit (v := 48) (by decide +kernel) ?_
    refine lv_lushr (v := ((m_2.toUInt64 >>> ((48 : Int32).toInt64.toUInt64 &&& Int64.toUInt64 63)).toInt64)) hx hb dX11_feed_54 rfl ?_
    refine lv_ldc2 (v := 255) hx hb hown (hts _ tb1414) dX11_feed_55 ?_
    refine lv_land hx hb dX11_feed_58 ?_
    refine lv_l2i (v := ((((m_2.toUInt64 >>> ((48 : Int32).toInt64.toUInt64 &&& Int64.toUInt64 63)).toInt64) &&& 255).toInt32)) hx hb dX11_feed_59 rfl ?_
    obtain ⟨Sv, eSv⟩ : ∃ z : Int32, z = ((((m_2.toUInt64 >>> ((48 : Int32).toInt64.toUInt64 &&& Int64.toUInt64 63)).toInt64) &&& 255).toInt32) := ⟨_, rfl⟩
    refine relit (v := Sv) eSv.symm ?_
    refine lv_istore (lv' := [(10, .int Sv), (8, .long m_2), (7, .int 9), (0, .ref h1), (1, .long m_1), (3, .long m_2), (5, .long m_3)]) hx hb dX11_feed_60 hl (by decide) rfl (fun ls hl => ?_)
    refine lv_aload_n hx hb dX11_feed_62 rfl (lv_at hl 3 rfl) ?_
    refine xget F hP 0 rfl rfl inX11 1 (by decide) tb1183 rfl dX11_feed_63 ?_
    refine lv_sipush (v := 1000) hx hb dX11_feed_66 (by decide) ?_
    refine lv_icmp_ge (tgt := 114) hx hb dX11_feed_69 (by decide) (fun c_ => absurd c_ (show ¬ (nI 1000 ≤ nI n) by rw [nI_leI (by omega) (by omega)]; omega)) (fun _ => ?_)
    refine lv_iload hx hb dX11_feed_72 (lv_at hl 0 rfl) ?_
    refine lv_bipush (v := 10) hx hb dX11_feed_74 (by decide) ?_
    refine lv_icmp_eq (tgt := 93) hx hb dX11_feed_76 (by decide) (fun c117 => ?_) (fun c117 => ?_)
    · refine lv_aload_n hx hb dX11_feed_93 rfl (lv_at hl 3 rfl) ?_
      refine xget F hP 0 rfl rfl inX11 2 (by decide) tb1184 rfl dX11_feed_94 ?_
      refine lv_aload_n hx hb dX11_feed_97 rfl (lv_at hl 3 rfl) ?_
      refine xget F hP 0 rfl rfl inX11 1 (by decide) tb1183 rfl dX11_feed_98 ?_
      refine lv_iload hx hb dX11_feed_101 (lv_at hl 0 rfl) ?_
      refine xistE F hP hD hS 1 rfl n (nI_pos (by omega)) (nI_clamp (by omega)) (by omega) dX11_feed_103 (fun f_118 H locs hP hD hS => ?_)
      have hP : va_P g vwCl [(h1, .inr (11, [.int 0, .int (nI n), .ref h2, x3, x4, x5, x6, x7, x8, x9, x10, x11, x12, x13, x14, x15, x16, x17, x18, x19, x20, x21, x22, x23, x24, x25, x26, x27, x28, x29, x30, x31, x32, x33, x34, x35, x36, x37, x38, x39, x40, x41, x42, x43, x44, x45, x46, x47, x48, x49, x50, x51, x52, x53, x54, x55, x56, x57, x58, x59, x60, x61, x62, x63, x64, x65, x66, x67, x68, x69, x70, x71, x72, x73])), (h2, .inl (aC 0, 1000, .inl f_118))] H := hP
      have hD : va_D A [(h1, .inr (11, [.int 0, .int (nI n), .ref h2, x3, x4, x5, x6, x7, x8, x9, x10, x11, x12, x13, x14, x15, x16, x17, x18, x19, x20, x21, x22, x23, x24, x25, x26, x27, x28, x29, x30, x31, x32, x33, x34, x35, x36, x37, x38, x39, x40, x41, x42, x43, x44, x45, x46, x47, x48, x49, x50, x51, x52, x53, x54, x55, x56, x57, x58, x59, x60, x61, x62, x63, x64, x65, x66, x67, x68, x69, x70, x71, x72, x73])), (h2, .inl (aC 0, 1000, .inl f_118))] := hD
      refine lv_aload_n hx hb dX11_feed_104 rfl (lv_at hl 3 rfl) ?_
      refine lv_dup hx hb dX11_feed_105 rfl ?_
      refine xget F hP 0 rfl rfl inX11 1 (by decide) tb1183 rfl dX11_feed_106 ?_
      refine lv_iconst (v := 1) hx hb dX11_feed_109 (by decide) ?_
      refine lv_iadd hx hb dX11_feed_110 ?_
      refine relit (v := (nI (n + 1))) (nadd (a := n) (b := 1) (by omega)) ?_
      refine xput F hP hD hS 0 rfl rfl inX11 tyX11_ok nmX11 1 (by decide) tb1183 rfl rfl rfl (Nat.le_of_ble_eq_true rfl) dX11_feed_111 (fun H locs hP hD hS => ?_)
      have hP : va_P g vwCl [(h1, .inr (11, [.int 0, .int (nI (n + 1)), .ref h2, x3, x4, x5, x6, x7, x8, x9, x10, x11, x12, x13, x14, x15, x16, x17, x18, x19, x20, x21, x22, x23, x24, x25, x26, x27, x28, x29, x30, x31, x32, x33, x34, x35, x36, x37, x38, x39, x40, x41, x42, x43, x44, x45, x46, x47, x48, x49, x50, x51, x52, x53, x54, x55, x56, x57, x58, x59, x60, x61, x62, x63, x64, x65, x66, x67, x68, x69, x70, x71, x72, x73])), (h2, .inl (aC 0, 1000, .inl f_118))] H := hP
      have hD : va_D A [(h1, .inr (11, [.int 0, .int (nI (n + 1)), .ref h2, x3, x4, x5, x6, x7, x8, x9, x10, x11, x12, x13, x14, x15, x16, x17, x18, x19, x20, x21, x22, x23, x24, x25, x26, x27, x28, x29, x30, x31, x32, x33, x34, x35, x36, x37, x38, x39, x40, x41, x42, x43, x44, x45, x46, x47, x48, x49, x50, x51, x52, x53, x54, x55, x56, x57, x58, x59, x60, x61, x62, x63, x64, x65, x66, x67, x68, x69, x70, x71, x72, x73])), (h2, .inl (aC 0, 1000, .inl f_118))] := hD
      refine lv_iinc (v := 10) (lv' := [(7, .int 10), (10, .int Sv), (8, .long m_2), (0, .ref h1), (1, .long m_1), (3, .long m_2), (5, .long m_3)]) hx hb dX11_feed_114 hl (k := 2) rfl (by decide +kernel) (by decide) rfl (fun ls hl => ?_)
      refine lv_goto (tgt := 8) hx hb dX11_feed_117 (by decide) ?_
      exact hc10 (n + 1) f_118 _ _ _ (f8_up 1 hn eSv (okb_eq c117)) (by omega) (hP.sub [0, 1] rfl) (hD.sub [0, 1] (by decide) rfl) hS (lv_sub hl [0, 3, 4, 5, 6] rfl)
    · refine lv_iload hx hb dX11_feed_79 (lv_at hl 0 rfl) ?_
      refine lv_bipush (v := 32) hx hb dX11_feed_81 (by decide) ?_
      refine lv_icmp_lt (tgt := 114) hx hb dX11_feed_83 (by decide) (fun c119 => ?_) (fun c119 => ?_)
      · refine lv_iinc (v := 10) (lv' := [(7, .int 10), (10, .int Sv), (8, .long m_2), (0, .ref h1), (1, .long m_1), (3, .long m_2), (5, .long m_3)]) hx hb dX11_feed_114 hl (k := 2) rfl (by decide +kernel) (by decide) rfl (fun ls hl => ?_)
        refine lv_goto (tgt := 8) hx hb dX11_feed_117 (by decide) ?_
        exact hc10 (n) f _ _ _ (f8_st 1 hn eSv (okb_lo c117 c119)) (by omega) (hP.sub [0, 1] rfl) (hD.sub [0, 1] (by decide) rfl) hS (lv_sub hl [0, 3, 4, 5, 6] rfl)
      · refine lv_iload hx hb dX11_feed_86 (lv_at hl 0 rfl) ?_
        refine lv_bipush (v := 126) hx hb dX11_feed_88 (by decide) ?_
        refine lv_icmp_gt (tgt := 114) hx hb dX11_feed_90 (by decide) (fun c120 => ?_) (fun c120 => ?_)
        · refine lv_iinc (v := 10) (lv' := [(7, .int 10), (10, .int Sv), (8, .long m_2), (0, .ref h1), (1, .long m_1), (3, .long m_2), (5, .long m_3)]) hx hb dX11_feed_114 hl (k := 2) rfl (by decide +kernel) (by decide) rfl (fun ls hl => ?_)
          refine lv_goto (tgt := 8) hx hb dX11_feed_117 (by decide) ?_
          exact hc10 (n) f _ _ _ (f8_st 1 hn eSv (okb_hi c117 c120)) (by omega) (hP.sub [0, 1] rfl) (hD.sub [0, 1] (by decide) rfl) hS (lv_sub hl [0, 3, 4, 5, 6] rfl)
        · refine lv_aload_n hx hb dX11_feed_93 rfl (lv_at hl 3 rfl) ?_
          refine xget F hP 0 rfl rfl inX11 2 (by decide) tb1184 rfl dX11_feed_94 ?_
          refine lv_aload_n hx hb dX11_feed_97 rfl (lv_at hl 3 rfl) ?_
          refine xget F hP 0 rfl rfl inX11 1 (by decide) tb1183 rfl dX11_feed_98 ?_
          refine lv_iload hx hb dX11_feed_101 (lv_at hl 0 rfl) ?_
          refine xistE F hP hD hS 1 rfl n (nI_pos (by omega)) (nI_clamp (by omega)) (by omega) dX11_feed_103 (fun f_121 H locs hP hD hS => ?_)
          have hP : va_P g vwCl [(h1, .inr (11, [.int 0, .int (nI n), .ref h2, x3, x4, x5, x6, x7, x8, x9, x10, x11, x12, x13, x14, x15, x16, x17, x18, x19, x20, x21, x22, x23, x24, x25, x26, x27, x28, x29, x30, x31, x32, x33, x34, x35, x36, x37, x38, x39, x40, x41, x42, x43, x44, x45, x46, x47, x48, x49, x50, x51, x52, x53, x54, x55, x56, x57, x58, x59, x60, x61, x62, x63, x64, x65, x66, x67, x68, x69, x70, x71, x72, x73])), (h2, .inl (aC 0, 1000, .inl f_121))] H := hP
          have hD : va_D A [(h1, .inr (11, [.int 0, .int (nI n), .ref h2, x3, x4, x5, x6, x7, x8, x9, x10, x11, x12, x13, x14, x15, x16, x17, x18, x19, x20, x21, x22, x23, x24, x25, x26, x27, x28, x29, x30, x31, x32, x33, x34, x35, x36, x37, x38, x39, x40, x41, x42, x43, x44, x45, x46, x47, x48, x49, x50, x51, x52, x53, x54, x55, x56, x57, x58, x59, x60, x61, x62, x63, x64, x65, x66, x67, x68, x69, x70, x71, x72, x73])), (h2, .inl (aC 0, 1000, .inl f_121))] := hD
          refine lv_aload_n hx hb dX11_feed_104 rfl (lv_at hl 3 rfl) ?_
          refine lv_dup hx hb dX11_feed_105 rfl ?_
          refine xget F hP 0 rfl rfl inX11 1 (by decide) tb1183 rfl dX11_feed_106 ?_
          refine lv_iconst (v := 1) hx hb dX11_feed_109 (by decide) ?_
          refine lv_iadd hx hb dX11_feed_110 ?_
          refine relit (v := (nI (n + 1))) (nadd (a := n) (b := 1) (by omega)) ?_
          refine xput F hP hD hS 0 rfl rfl inX11 tyX11_ok nmX11 1 (by decide) tb1183 rfl rfl rfl (Nat.le_of_ble_eq_true rfl) dX11_feed_111 (fun H locs hP hD hS => ?_)
          have hP : va_P g vwCl [(h1, .inr (11, [.int 0, .int (nI (n + 1)), .ref h2, x3, x4, x5, x6, x7, x8, x9, x10, x11, x12, x13, x14, x15, x16, x17, x18, x19, x20, x21, x22, x23, x24, x25, x26, x27, x28, x29, x30, x31, x32, x33, x34, x35, x36, x37, x38, x39, x40, x41, x42, x43, x44, x45, x46, x47, x48, x49, x50, x51, x52, x53, x54, x55, x56, x57, x58, x59, x60, x61, x62, x63, x64, x65, x66, x67, x68, x69, x70, x71, x72, x73])), (h2, .inl (aC 0, 1000, .inl f_121))] H := hP
          have hD : va_D A [(h1, .inr (11, [.int 0, .int (nI (n + 1)), .ref h2, x3, x4, x5, x6, x7, x8, x9, x10, x11, x12, x13, x14, x15, x16, x17, x18, x19, x20, x21, x22, x23, x24, x25, x26, x27, x28, x29, x30, x31, x32, x33, x34, x35, x36, x37, x38, x39, x40, x41, x42, x43, x44, x45, x46, x47, x48, x49, x50, x51, x52, x53, x54, x55, x56, x57, x58, x59, x60, x61, x62, x63, x64, x65, x66, x67, x68, x69, x70, x71, x72, x73])), (h2, .inl (aC 0, 1000, .inl f_121))] := hD
          refine lv_iinc (v := 10) (lv' := [(7, .int 10), (10, .int Sv), (8, .long m_2), (0, .ref h1), (1, .long m_1), (3, .long m_2), (5, .long m_3)]) hx hb dX11_feed_114 hl (k := 2) rfl (by decide +kernel) (by decide) rfl (fun ls hl => ?_)
          refine lv_goto (tgt := 8) hx hb dX11_feed_117 (by decide) ?_
          exact hc10 (n + 1) f_121 _ _ _ (f8_up 1 hn eSv (okb_in c119 c120)) (by omega) (hP.sub [0, 1] rfl) (hD.sub [0, 1] (by decide) rfl) hS (lv_sub hl [0, 3, 4, 5, 6] rfl)
  have hc8 : ∀ (n : Nat) (f : Nat → Int32) (H : Heap) (locs : List Loc) (ls : Array Slot), n = (0 + f8 m_1 8) + f8 m_2 0 → n ≤ 8 → va_P g vwCl [(h1, .inr (11, [.int 0, .int (nI n), .ref h2, x3, x4, x5, x6, x7, x8, x9, x10, x11, x12, x13, x14, x15, x16, x17, x18, x19, x20, x21, x22, x23, x24, x25, x26, x27, x28, x29, x30, x31, x32, x33, x34, x35, x36, x37, x38, x39, x40, x41, x42, x43, x44, x45, x46, x47, x48, x49, x50, x51, x52, x53, x54, x55, x56, x57, x58, x59, x60, x61, x62, x63, x64, x65, x66, x67, x68, x69, x70, x71, x72, x73])), (h2, .inl (aC 0, 1000, .inl f))] H → va_D A [(h1, .inr (11, [.int 0, .int (nI n), .ref h2, x3, x4, x5, x6, x7, x8, x9, x10, x11, x12, x13, x14, x15, x16, x17, x18, x19, x20, x21, x22, x23, x24, x25, x26, x27, x28, x29, x30, x31, x32, x33, x34, x35, x36, x37, x38, x39, x40, x41, x42, x43, x44, x45, x46, x47, x48, x49, x50, x51, x52, x53, x54, x55, x56, x57, x58, x59, x60, x61, x62, x63, x64, x65, x66, x67, x68, x69, x70, x71, x72, x73])), (h2, .inl (aC 0, 1000, .inl f))] → va_S A s.heap H locs → lv_has ls 11 [(7, .int 8), (0, .ref h1), (1, .long m_1), (3, .long m_2), (5, .long m_3)] → W p l e (rmL 1 0 0) s m [.ref h1, .long m_1, .long m_2, .long m_3].toArray below meth c H locs 0 0 (MQ below (QI g (fun (r : Int32) (_ : Unit) => r = (nI (((0 + f8 m_1 8) + f8 m_2 8) + f8 m_3 8))) (fun (_ : Unit) => []) A) [.ref h1, .long m_1, .long m_2, .long m_3].toArray s 0 0 A) (F0 m 8 ls []) := by
    intro n f H locs ls hn hb_ hP hD hS hl
    refine lv_iload hx hb dX11_feed_8 (lv_at hl 0 rfl) ?_
    refine lv_bipush (v := 24) hx hb dX11_feed_10 (by decide) ?_
    refine lv_icmp_ge (tgt := 120) hx hb dX11_feed_12 (by decide) (fun c_ => absurd c_ (by decide +kernel)) (fun _ => ?_)
    refine lv_iload hx hb dX11_feed_15 (lv_at hl 0 rfl) ?_
    refine lv_bipush (v := 8) hx hb dX11_feed_17 (by decide) ?_
    refine lv_icmp_ge (tgt := 26) hx hb dX11_feed_19 (by decide) (fun _ => ?_) (fun c_ => absurd (by decide +kernel) c_)
    refine lv_iload hx hb dX11_feed_26 (lv_at hl 0 rfl) ?_
    refine lv_bipush (v := 16) hx hb dX11_feed_28 (by decide) ?_
    refine lv_icmp_ge (tgt := 37) hx hb dX11_feed_30 (by decide) (fun c_ => absurd c_ (by decide +kernel)) (fun _ => ?_)
    refine lv_lload_n hx hb dX11_feed_33 rfl (lv_at hl 3 rfl) ?_
    refine lv_goto (tgt := 39) hx hb dX11_feed_34 (by decide) ?_
    refine lv_lstore (lv' := [(8, .long m_2), (7, .int 8), (0, .ref h1), (1, .long m_1), (3, .long m_2), (5, .long m_3)]) hx hb dX11_feed_39 hl (by decide) rfl (fun ls hl => ?_)
    refine lv_lload hx hb dX11_feed_41 (lv_at hl 0 rfl) ?_
    refine lv_bipush (v := 56) hx hb dX11_feed_43 (by decide) ?_
    refine lv_bipush (v := 8) hx hb dX11_feed_45 (by decide) ?_
    refine lv_iload hx hb dX11_feed_47 (lv_at hl 1 rfl) ?_
    refine lv_bipush (v := 7) hx hb dX11_feed_49 (by decide) ?_
    refine lv_iand hx hb dX11_feed_51 ?_
    refine relit (v := 0) (by decide +kernel) ?_
    refine lv_imul hx hb dX11_feed_52 ?_
    refine relit (v := 0) (by decide +kernel) ?_
    refine lv_isub hx hb dX11_feed_53 ?_
    refine relit (v := 56) (by decide +kernel) ?_
    refine lv_lushr (v := ((m_2.toUInt64 >>> ((56 : Int32).toInt64.toUInt64 &&& Int64.toUInt64 63)).toInt64)) hx hb dX11_feed_54 rfl ?_
    refine lv_ldc2 (v := 255) hx hb hown (hts _ tb1414) dX11_feed_55 ?_
    refine lv_land hx hb dX11_feed_58 ?_
    refine lv_l2i (v := ((((m_2.toUInt64 >>> ((56 : Int32).toInt64.toUInt64 &&& Int64.toUInt64 63)).toInt64) &&& 255).toInt32)) hx hb dX11_feed_59 rfl ?_
    obtain ⟨Sv, eSv⟩ : ∃ z : Int32, z = ((((m_2.toUInt64 >>> ((56 : Int32).toInt64.toUInt64 &&& Int64.toUInt64 63)).toInt64) &&& 255).toInt32) := ⟨_, rfl⟩
    refine relit (v := Sv) eSv.symm ?_
    refine lv_istore (lv' := [(10, .int Sv), (8, .long m_2), (7, .int 8), (0, .ref h1), (1, .long m_1), (3, .long m_2), (5, .long m_3)]) hx hb dX11_feed_60 hl (by decide) rfl (fun ls hl => ?_)
    refine lv_aload_n hx hb dX11_feed_62 rfl (lv_at hl 3 rfl) ?_
    refine xget F hP 0 rfl rfl inX11 1 (by decide) tb1183 rfl dX11_feed_63 ?_
    refine lv_sipush (v := 1000) hx hb dX11_feed_66 (by decide) ?_
    refine lv_icmp_ge (tgt := 114) hx hb dX11_feed_69 (by decide) (fun c_ => absurd c_ (show ¬ (nI 1000 ≤ nI n) by rw [nI_leI (by omega) (by omega)]; omega)) (fun _ => ?_)
    refine lv_iload hx hb dX11_feed_72 (lv_at hl 0 rfl) ?_
    refine lv_bipush (v := 10) hx hb dX11_feed_74 (by decide) ?_
    refine lv_icmp_eq (tgt := 93) hx hb dX11_feed_76 (by decide) (fun c125 => ?_) (fun c125 => ?_)
    · refine lv_aload_n hx hb dX11_feed_93 rfl (lv_at hl 3 rfl) ?_
      refine xget F hP 0 rfl rfl inX11 2 (by decide) tb1184 rfl dX11_feed_94 ?_
      refine lv_aload_n hx hb dX11_feed_97 rfl (lv_at hl 3 rfl) ?_
      refine xget F hP 0 rfl rfl inX11 1 (by decide) tb1183 rfl dX11_feed_98 ?_
      refine lv_iload hx hb dX11_feed_101 (lv_at hl 0 rfl) ?_
      refine xistE F hP hD hS 1 rfl n (nI_pos (by omega)) (nI_clamp (by omega)) (by omega) dX11_feed_103 (fun f_126 H locs hP hD hS => ?_)
      have hP : va_P g vwCl [(h1, .inr (11, [.int 0, .int (nI n), .ref h2, x3, x4, x5, x6, x7, x8, x9, x10, x11, x12, x13, x14, x15, x16, x17, x18, x19, x20, x21, x22, x23, x24, x25, x26, x27, x28, x29, x30, x31, x32, x33, x34, x35, x36, x37, x38, x39, x40, x41, x42, x43, x44, x45, x46, x47, x48, x49, x50, x51, x52, x53, x54, x55, x56, x57, x58, x59, x60, x61, x62, x63, x64, x65, x66, x67, x68, x69, x70, x71, x72, x73])), (h2, .inl (aC 0, 1000, .inl f_126))] H := hP
      have hD : va_D A [(h1, .inr (11, [.int 0, .int (nI n), .ref h2, x3, x4, x5, x6, x7, x8, x9, x10, x11, x12, x13, x14, x15, x16, x17, x18, x19, x20, x21, x22, x23, x24, x25, x26, x27, x28, x29, x30, x31, x32, x33, x34, x35, x36, x37, x38, x39, x40, x41, x42, x43, x44, x45, x46, x47, x48, x49, x50, x51, x52, x53, x54, x55, x56, x57, x58, x59, x60, x61, x62, x63, x64, x65, x66, x67, x68, x69, x70, x71, x72, x73])), (h2, .inl (aC 0, 1000, .inl f_126))] := hD
      refine lv_aload_n hx hb dX11_feed_104 rfl (lv_at hl 3 rfl) ?_
      refine lv_dup hx hb dX11_feed_105 rfl ?_
      refine xget F hP 0 rfl rfl inX11 1 (by decide) tb1183 rfl dX11_feed_106 ?_
      refine lv_iconst (v := 1) hx hb dX11_feed_109 (by decide) ?_
      refine lv_iadd hx hb dX11_feed_110 ?_
      refine relit (v := (nI (n + 1))) (nadd (a := n) (b := 1) (by omega)) ?_
      refine xput F hP hD hS 0 rfl rfl inX11 tyX11_ok nmX11 1 (by decide) tb1183 rfl rfl rfl (Nat.le_of_ble_eq_true rfl) dX11_feed_111 (fun H locs hP hD hS => ?_)
      have hP : va_P g vwCl [(h1, .inr (11, [.int 0, .int (nI (n + 1)), .ref h2, x3, x4, x5, x6, x7, x8, x9, x10, x11, x12, x13, x14, x15, x16, x17, x18, x19, x20, x21, x22, x23, x24, x25, x26, x27, x28, x29, x30, x31, x32, x33, x34, x35, x36, x37, x38, x39, x40, x41, x42, x43, x44, x45, x46, x47, x48, x49, x50, x51, x52, x53, x54, x55, x56, x57, x58, x59, x60, x61, x62, x63, x64, x65, x66, x67, x68, x69, x70, x71, x72, x73])), (h2, .inl (aC 0, 1000, .inl f_126))] H := hP
      have hD : va_D A [(h1, .inr (11, [.int 0, .int (nI (n + 1)), .ref h2, x3, x4, x5, x6, x7, x8, x9, x10, x11, x12, x13, x14, x15, x16, x17, x18, x19, x20, x21, x22, x23, x24, x25, x26, x27, x28, x29, x30, x31, x32, x33, x34, x35, x36, x37, x38, x39, x40, x41, x42, x43, x44, x45, x46, x47, x48, x49, x50, x51, x52, x53, x54, x55, x56, x57, x58, x59, x60, x61, x62, x63, x64, x65, x66, x67, x68, x69, x70, x71, x72, x73])), (h2, .inl (aC 0, 1000, .inl f_126))] := hD
      refine lv_iinc (v := 9) (lv' := [(7, .int 9), (10, .int Sv), (8, .long m_2), (0, .ref h1), (1, .long m_1), (3, .long m_2), (5, .long m_3)]) hx hb dX11_feed_114 hl (k := 2) rfl (by decide +kernel) (by decide) rfl (fun ls hl => ?_)
      refine lv_goto (tgt := 8) hx hb dX11_feed_117 (by decide) ?_
      exact hc9 (n + 1) f_126 _ _ _ (f8_up 0 hn eSv (okb_eq c125)) (by omega) (hP.sub [0, 1] rfl) (hD.sub [0, 1] (by decide) rfl) hS (lv_sub hl [0, 3, 4, 5, 6] rfl)
    · refine lv_iload hx hb dX11_feed_79 (lv_at hl 0 rfl) ?_
      refine lv_bipush (v := 32) hx hb dX11_feed_81 (by decide) ?_
      refine lv_icmp_lt (tgt := 114) hx hb dX11_feed_83 (by decide) (fun c127 => ?_) (fun c127 => ?_)
      · refine lv_iinc (v := 9) (lv' := [(7, .int 9), (10, .int Sv), (8, .long m_2), (0, .ref h1), (1, .long m_1), (3, .long m_2), (5, .long m_3)]) hx hb dX11_feed_114 hl (k := 2) rfl (by decide +kernel) (by decide) rfl (fun ls hl => ?_)
        refine lv_goto (tgt := 8) hx hb dX11_feed_117 (by decide) ?_
        exact hc9 (n) f _ _ _ (f8_st 0 hn eSv (okb_lo c125 c127)) (by omega) (hP.sub [0, 1] rfl) (hD.sub [0, 1] (by decide) rfl) hS (lv_sub hl [0, 3, 4, 5, 6] rfl)
      · refine lv_iload hx hb dX11_feed_86 (lv_at hl 0 rfl) ?_
        refine lv_bipush (v := 126) hx hb dX11_feed_88 (by decide) ?_
        refine lv_icmp_gt (tgt := 114) hx hb dX11_feed_90 (by decide) (fun c128 => ?_) (fun c128 => ?_)
        · refine lv_iinc (v := 9) (lv' := [(7, .int 9), (10, .int Sv), (8, .long m_2), (0, .ref h1), (1, .long m_1), (3, .long m_2), (5, .long m_3)]) hx hb dX11_feed_114 hl (k := 2) rfl (by decide +kernel) (by decide) rfl (fun ls hl => ?_)
          refine lv_goto (tgt := 8) hx hb dX11_feed_117 (by decide) ?_
          exact hc9 (n) f _ _ _ (f8_st 0 hn eSv (okb_hi c125 c128)) (by omega) (hP.sub [0, 1] rfl) (hD.sub [0, 1] (by decide) rfl) hS (lv_sub hl [0, 3, 4, 5, 6] rfl)
        · refine lv_aload_n hx hb dX11_feed_93 rfl (lv_at hl 3 rfl) ?_
          refine xget F hP 0 rfl rfl inX11 2 (by decide) tb1184 rfl dX11_feed_94 ?_
          refine lv_aload_n hx hb dX11_feed_97 rfl (lv_at hl 3 rfl) ?_
          refine xget F hP 0 rfl rfl inX11 1 (by decide) tb1183 rfl dX11_feed_98 ?_
          refine lv_iload hx hb dX11_feed_101 (lv_at hl 0 rfl) ?_
          refine xistE F hP hD hS 1 rfl n (nI_pos (by omega)) (nI_clamp (by omega)) (by omega) dX11_feed_103 (fun f_129 H locs hP hD hS => ?_)
          have hP : va_P g vwCl [(h1, .inr (11, [.int 0, .int (nI n), .ref h2, x3, x4, x5, x6, x7, x8, x9, x10, x11, x12, x13, x14, x15, x16, x17, x18, x19, x20, x21, x22, x23, x24, x25, x26, x27, x28, x29, x30, x31, x32, x33, x34, x35, x36, x37, x38, x39, x40, x41, x42, x43, x44, x45, x46, x47, x48, x49, x50, x51, x52, x53, x54, x55, x56, x57, x58, x59, x60, x61, x62, x63, x64, x65, x66, x67, x68, x69, x70, x71, x72, x73])), (h2, .inl (aC 0, 1000, .inl f_129))] H := hP
          have hD : va_D A [(h1, .inr (11, [.int 0, .int (nI n), .ref h2, x3, x4, x5, x6, x7, x8, x9, x10, x11, x12, x13, x14, x15, x16, x17, x18, x19, x20, x21, x22, x23, x24, x25, x26, x27, x28, x29, x30, x31, x32, x33, x34, x35, x36, x37, x38, x39, x40, x41, x42, x43, x44, x45, x46, x47, x48, x49, x50, x51, x52, x53, x54, x55, x56, x57, x58, x59, x60, x61, x62, x63, x64, x65, x66, x67, x68, x69, x70, x71, x72, x73])), (h2, .inl (aC 0, 1000, .inl f_129))] := hD
          refine lv_aload_n hx hb dX11_feed_104 rfl (lv_at hl 3 rfl) ?_
          refine lv_dup hx hb dX11_feed_105 rfl ?_
          refine xget F hP 0 rfl rfl inX11 1 (by decide) tb1183 rfl dX11_feed_106 ?_
          refine lv_iconst (v := 1) hx hb dX11_feed_109 (by decide) ?_
          refine lv_iadd hx hb dX11_feed_110 ?_
          refine relit (v := (nI (n + 1))) (nadd (a := n) (b := 1) (by omega)) ?_
          refine xput F hP hD hS 0 rfl rfl inX11 tyX11_ok nmX11 1 (by decide) tb1183 rfl rfl rfl (Nat.le_of_ble_eq_true rfl) dX11_feed_111 (fun H locs hP hD hS => ?_)
          have hP : va_P g vwCl [(h1, .inr (11, [.int 0, .int (nI (n + 1)), .ref h2, x3, x4, x5, x6, x7, x8, x9, x10, x11, x12, x13, x14, x15, x16, x17, x18, x19, x20, x21, x22, x23, x24, x25, x26, x27, x28, x29, x30, x31, x32, x33, x34, x35, x36, x37, x38, x39, x40, x41, x42, x43, x44, x45, x46, x47, x48, x49, x50, x51, x52, x53, x54, x55, x56, x57, x58, x59, x60, x61, x62, x63, x64, x65, x66, x67, x68, x69, x70, x71, x72, x73])), (h2, .inl (aC 0, 1000, .inl f_129))] H := hP
          have hD : va_D A [(h1, .inr (11, [.int 0, .int (nI (n + 1)), .ref h2, x3, x4, x5, x6, x7, x8, x9, x10, x11, x12, x13, x14, x15, x16, x17, x18, x19, x20, x21, x22, x23, x24, x25, x26, x27, x28, x29, x30, x31, x32, x33, x34, x35, x36, x37, x38, x39, x40, x41, x42, x43, x44, x45, x46, x47, x48, x49, x50, x51, x52, x53, x54, x55, x56, x57, x58, x59, x60, x61, x62, x63, x64, x65, x66, x67, x68, x69, x70, x71, x72, x73])), (h2, .inl (aC 0, 1000, .inl f_129))] := hD
          refine lv_iinc (v := 9) (lv' := [(7, .int 9), (10, .int Sv), (8, .long m_2), (0, .ref h1), (1, .long m_1), (3, .long m_2), (5, .long m_3)]) hx hb dX11_feed_114 hl (k := 2) rfl (by decide +kernel) (by decide) rfl (fun ls hl => ?_)
          refine lv_goto (tgt := 8) hx hb dX11_feed_117 (by decide) ?_
          exact hc9 (n + 1) f_129 _ _ _ (f8_up 0 hn eSv (okb_in c127 c128)) (by omega) (hP.sub [0, 1] rfl) (hD.sub [0, 1] (by decide) rfl) hS (lv_sub hl [0, 3, 4, 5, 6] rfl)
  have hc7 : ∀ (n : Nat) (f : Nat → Int32) (H : Heap) (locs : List Loc) (ls : Array Slot), n = 0 + f8 m_1 7 → n ≤ 7 → va_P g vwCl [(h1, .inr (11, [.int 0, .int (nI n), .ref h2, x3, x4, x5, x6, x7, x8, x9, x10, x11, x12, x13, x14, x15, x16, x17, x18, x19, x20, x21, x22, x23, x24, x25, x26, x27, x28, x29, x30, x31, x32, x33, x34, x35, x36, x37, x38, x39, x40, x41, x42, x43, x44, x45, x46, x47, x48, x49, x50, x51, x52, x53, x54, x55, x56, x57, x58, x59, x60, x61, x62, x63, x64, x65, x66, x67, x68, x69, x70, x71, x72, x73])), (h2, .inl (aC 0, 1000, .inl f))] H → va_D A [(h1, .inr (11, [.int 0, .int (nI n), .ref h2, x3, x4, x5, x6, x7, x8, x9, x10, x11, x12, x13, x14, x15, x16, x17, x18, x19, x20, x21, x22, x23, x24, x25, x26, x27, x28, x29, x30, x31, x32, x33, x34, x35, x36, x37, x38, x39, x40, x41, x42, x43, x44, x45, x46, x47, x48, x49, x50, x51, x52, x53, x54, x55, x56, x57, x58, x59, x60, x61, x62, x63, x64, x65, x66, x67, x68, x69, x70, x71, x72, x73])), (h2, .inl (aC 0, 1000, .inl f))] → va_S A s.heap H locs → lv_has ls 11 [(7, .int 7), (0, .ref h1), (1, .long m_1), (3, .long m_2), (5, .long m_3)] → W p l e (rmL 1 0 0) s m [.ref h1, .long m_1, .long m_2, .long m_3].toArray below meth c H locs 0 0 (MQ below (QI g (fun (r : Int32) (_ : Unit) => r = (nI (((0 + f8 m_1 8) + f8 m_2 8) + f8 m_3 8))) (fun (_ : Unit) => []) A) [.ref h1, .long m_1, .long m_2, .long m_3].toArray s 0 0 A) (F0 m 8 ls []) := by
    intro n f H locs ls hn hb_ hP hD hS hl
    refine lv_iload hx hb dX11_feed_8 (lv_at hl 0 rfl) ?_
    refine lv_bipush (v := 24) hx hb dX11_feed_10 (by decide) ?_
    refine lv_icmp_ge (tgt := 120) hx hb dX11_feed_12 (by decide) (fun c_ => absurd c_ (by decide +kernel)) (fun _ => ?_)
    refine lv_iload hx hb dX11_feed_15 (lv_at hl 0 rfl) ?_
    refine lv_bipush (v := 8) hx hb dX11_feed_17 (by decide) ?_
    refine lv_icmp_ge (tgt := 26) hx hb dX11_feed_19 (by decide) (fun c_ => absurd c_ (by decide +kernel)) (fun _ => ?_)
    refine lv_lload_n hx hb dX11_feed_22 rfl (lv_at hl 2 rfl) ?_
    refine lv_goto (tgt := 39) hx hb dX11_feed_23 (by decide) ?_
    refine lv_lstore (lv' := [(8, .long m_1), (7, .int 7), (0, .ref h1), (1, .long m_1), (3, .long m_2), (5, .long m_3)]) hx hb dX11_feed_39 hl (by decide) rfl (fun ls hl => ?_)
    refine lv_lload hx hb dX11_feed_41 (lv_at hl 0 rfl) ?_
    refine lv_bipush (v := 56) hx hb dX11_feed_43 (by decide) ?_
    refine lv_bipush (v := 8) hx hb dX11_feed_45 (by decide) ?_
    refine lv_iload hx hb dX11_feed_47 (lv_at hl 1 rfl) ?_
    refine lv_bipush (v := 7) hx hb dX11_feed_49 (by decide) ?_
    refine lv_iand hx hb dX11_feed_51 ?_
    refine relit (v := 7) (by decide +kernel) ?_
    refine lv_imul hx hb dX11_feed_52 ?_
    refine relit (v := 56) (by decide +kernel) ?_
    refine lv_isub hx hb dX11_feed_53 ?_
    refine relit (v := 0) (by decide +kernel) ?_
    refine lv_lushr (v := ((m_1.toUInt64 >>> ((0 : Int32).toInt64.toUInt64 &&& Int64.toUInt64 63)).toInt64)) hx hb dX11_feed_54 rfl ?_
    refine lv_ldc2 (v := 255) hx hb hown (hts _ tb1414) dX11_feed_55 ?_
    refine lv_land hx hb dX11_feed_58 ?_
    refine lv_l2i (v := ((((m_1.toUInt64 >>> ((0 : Int32).toInt64.toUInt64 &&& Int64.toUInt64 63)).toInt64) &&& 255).toInt32)) hx hb dX11_feed_59 rfl ?_
    obtain ⟨Sv, eSv⟩ : ∃ z : Int32, z = ((((m_1.toUInt64 >>> ((0 : Int32).toInt64.toUInt64 &&& Int64.toUInt64 63)).toInt64) &&& 255).toInt32) := ⟨_, rfl⟩
    refine relit (v := Sv) eSv.symm ?_
    refine lv_istore (lv' := [(10, .int Sv), (8, .long m_1), (7, .int 7), (0, .ref h1), (1, .long m_1), (3, .long m_2), (5, .long m_3)]) hx hb dX11_feed_60 hl (by decide) rfl (fun ls hl => ?_)
    refine lv_aload_n hx hb dX11_feed_62 rfl (lv_at hl 3 rfl) ?_
    refine xget F hP 0 rfl rfl inX11 1 (by decide) tb1183 rfl dX11_feed_63 ?_
    refine lv_sipush (v := 1000) hx hb dX11_feed_66 (by decide) ?_
    refine lv_icmp_ge (tgt := 114) hx hb dX11_feed_69 (by decide) (fun c_ => absurd c_ (show ¬ (nI 1000 ≤ nI n) by rw [nI_leI (by omega) (by omega)]; omega)) (fun _ => ?_)
    refine lv_iload hx hb dX11_feed_72 (lv_at hl 0 rfl) ?_
    refine lv_bipush (v := 10) hx hb dX11_feed_74 (by decide) ?_
    refine lv_icmp_eq (tgt := 93) hx hb dX11_feed_76 (by decide) (fun c132 => ?_) (fun c132 => ?_)
    · refine lv_aload_n hx hb dX11_feed_93 rfl (lv_at hl 3 rfl) ?_
      refine xget F hP 0 rfl rfl inX11 2 (by decide) tb1184 rfl dX11_feed_94 ?_
      refine lv_aload_n hx hb dX11_feed_97 rfl (lv_at hl 3 rfl) ?_
      refine xget F hP 0 rfl rfl inX11 1 (by decide) tb1183 rfl dX11_feed_98 ?_
      refine lv_iload hx hb dX11_feed_101 (lv_at hl 0 rfl) ?_
      refine xistE F hP hD hS 1 rfl n (nI_pos (by omega)) (nI_clamp (by omega)) (by omega) dX11_feed_103 (fun f_133 H locs hP hD hS => ?_)
      have hP : va_P g vwCl [(h1, .inr (11, [.int 0, .int (nI n), .ref h2, x3, x4, x5, x6, x7, x8, x9, x10, x11, x12, x13, x14, x15, x16, x17, x18, x19, x20, x21, x22, x23, x24, x25, x26, x27, x28, x29, x30, x31, x32, x33, x34, x35, x36, x37, x38, x39, x40, x41, x42, x43, x44, x45, x46, x47, x48, x49, x50, x51, x52, x53, x54, x55, x56, x57, x58, x59, x60, x61, x62, x63, x64, x65, x66, x67, x68, x69, x70, x71, x72, x73])), (h2, .inl (aC 0, 1000, .inl f_133))] H := hP
      have hD : va_D A [(h1, .inr (11, [.int 0, .int (nI n), .ref h2, x3, x4, x5, x6, x7, x8, x9, x10, x11, x12, x13, x14, x15, x16, x17, x18, x19, x20, x21, x22, x23, x24, x25, x26, x27, x28, x29, x30, x31, x32, x33, x34, x35, x36, x37, x38, x39, x40, x41, x42, x43, x44, x45, x46, x47, x48, x49, x50, x51, x52, x53, x54, x55, x56, x57, x58, x59, x60, x61, x62, x63, x64, x65, x66, x67, x68, x69, x70, x71, x72, x73])), (h2, .inl (aC 0, 1000, .inl f_133))] := hD
      refine lv_aload_n hx hb dX11_feed_104 rfl (lv_at hl 3 rfl) ?_
      refine lv_dup hx hb dX11_feed_105 rfl ?_
      refine xget F hP 0 rfl rfl inX11 1 (by decide) tb1183 rfl dX11_feed_106 ?_
      refine lv_iconst (v := 1) hx hb dX11_feed_109 (by decide) ?_
      refine lv_iadd hx hb dX11_feed_110 ?_
      refine relit (v := (nI (n + 1))) (nadd (a := n) (b := 1) (by omega)) ?_
      refine xput F hP hD hS 0 rfl rfl inX11 tyX11_ok nmX11 1 (by decide) tb1183 rfl rfl rfl (Nat.le_of_ble_eq_true rfl) dX11_feed_111 (fun H locs hP hD hS => ?_)
      have hP : va_P g vwCl [(h1, .inr (11, [.int 0, .int (nI (n + 1)), .ref h2, x3, x4, x5, x6, x7, x8, x9, x10, x11, x12, x13, x14, x15, x16, x17, x18, x19, x20, x21, x22, x23, x24, x25, x26, x27, x28, x29, x30, x31, x32, x33, x34, x35, x36, x37, x38, x39, x40, x41, x42, x43, x44, x45, x46, x47, x48, x49, x50, x51, x52, x53, x54, x55, x56, x57, x58, x59, x60, x61, x62, x63, x64, x65, x66, x67, x68, x69, x70, x71, x72, x73])), (h2, .inl (aC 0, 1000, .inl f_133))] H := hP
      have hD : va_D A [(h1, .inr (11, [.int 0, .int (nI (n + 1)), .ref h2, x3, x4, x5, x6, x7, x8, x9, x10, x11, x12, x13, x14, x15, x16, x17, x18, x19, x20, x21, x22, x23, x24, x25, x26, x27, x28, x29, x30, x31, x32, x33, x34, x35, x36, x37, x38, x39, x40, x41, x42, x43, x44, x45, x46, x47, x48, x49, x50, x51, x52, x53, x54, x55, x56, x57, x58, x59, x60, x61, x62, x63, x64, x65, x66, x67, x68, x69, x70, x71, x72, x73])), (h2, .inl (aC 0, 1000, .inl f_133))] := hD
      refine lv_iinc (v := 8) (lv' := [(7, .int 8), (10, .int Sv), (8, .long m_1), (0, .ref h1), (1, .long m_1), (3, .long m_2), (5, .long m_3)]) hx hb dX11_feed_114 hl (k := 2) rfl (by decide +kernel) (by decide) rfl (fun ls hl => ?_)
      refine lv_goto (tgt := 8) hx hb dX11_feed_117 (by decide) ?_
      exact hc8 (n + 1) f_133 _ _ _ (f8_up 7 hn eSv (okb_eq c132)) (by omega) (hP.sub [0, 1] rfl) (hD.sub [0, 1] (by decide) rfl) hS (lv_sub hl [0, 3, 4, 5, 6] rfl)
    · refine lv_iload hx hb dX11_feed_79 (lv_at hl 0 rfl) ?_
      refine lv_bipush (v := 32) hx hb dX11_feed_81 (by decide) ?_
      refine lv_icmp_lt (tgt := 114) hx hb dX11_feed_83 (by decide) (fun c134 => ?_) (fun c134 => ?_)
      · refine lv_iinc (v := 8) (lv' := [(7, .int 8), (10, .int Sv), (8, .long m_1), (0, .ref h1), (1, .long m_1), (3, .long m_2), (5, .long m_3)]) hx hb dX11_feed_114 hl (k := 2) rfl (by decide +kernel) (by decide) rfl (fun ls hl => ?_)
        refine lv_goto (tgt := 8) hx hb dX11_feed_117 (by decide) ?_
        exact hc8 (n) f _ _ _ (f8_st 7 hn eSv (okb_lo c132 c134)) (by omega) (hP.sub [0, 1] rfl) (hD.sub [0, 1] (by decide) rfl) hS (lv_sub hl [0, 3, 4, 5, 6] rfl)
      · refine lv_iload hx hb dX11_feed_86 (lv_at hl 0 rfl) ?_
        refine lv_bipush (v := 126) hx hb dX11_feed_88 (by decide) ?_
        refine lv_icmp_gt (tgt := 114) hx hb dX11_feed_90 (by decide) (fun c135 => ?_) (fun c135 => ?_)
        · refine lv_iinc (v := 8) (lv' := [(7, .int 8), (10, .int Sv), (8, .long m_1), (0, .ref h1), (1, .long m_1), (3, .long m_2), (5, .long m_3)]) hx hb dX11_feed_114 hl (k := 2) rfl (by decide +kernel) (by decide) rfl (fun ls hl => ?_)
          refine lv_goto (tgt := 8) hx hb dX11_feed_117 (by decide) ?_
          exact hc8 (n) f _ _ _ (f8_st 7 hn eSv (okb_hi c132 c135)) (by omega) (hP.sub [0, 1] rfl) (hD.sub [0, 1] (by decide) rfl) hS (lv_sub hl [0, 3, 4, 5, 6] rfl)
        · refine lv_aload_n hx hb dX11_feed_93 rfl (lv_at hl 3 rfl) ?_
          refine xget F hP 0 rfl rfl inX11 2 (by decide) tb1184 rfl dX11_feed_94 ?_
          refine lv_aload_n hx hb dX11_feed_97 rfl (lv_at hl 3 rfl) ?_
          refine xget F hP 0 rfl rfl inX11 1 (by decide) tb1183 rfl dX11_feed_98 ?_
          refine lv_iload hx hb dX11_feed_101 (lv_at hl 0 rfl) ?_
          refine xistE F hP hD hS 1 rfl n (nI_pos (by omega)) (nI_clamp (by omega)) (by omega) dX11_feed_103 (fun f_136 H locs hP hD hS => ?_)
          have hP : va_P g vwCl [(h1, .inr (11, [.int 0, .int (nI n), .ref h2, x3, x4, x5, x6, x7, x8, x9, x10, x11, x12, x13, x14, x15, x16, x17, x18, x19, x20, x21, x22, x23, x24, x25, x26, x27, x28, x29, x30, x31, x32, x33, x34, x35, x36, x37, x38, x39, x40, x41, x42, x43, x44, x45, x46, x47, x48, x49, x50, x51, x52, x53, x54, x55, x56, x57, x58, x59, x60, x61, x62, x63, x64, x65, x66, x67, x68, x69, x70, x71, x72, x73])), (h2, .inl (aC 0, 1000, .inl f_136))] H := hP
          have hD : va_D A [(h1, .inr (11, [.int 0, .int (nI n), .ref h2, x3, x4, x5, x6, x7, x8, x9, x10, x11, x12, x13, x14, x15, x16, x17, x18, x19, x20, x21, x22, x23, x24, x25, x26, x27, x28, x29, x30, x31, x32, x33, x34, x35, x36, x37, x38, x39, x40, x41, x42, x43, x44, x45, x46, x47, x48, x49, x50, x51, x52, x53, x54, x55, x56, x57, x58, x59, x60, x61, x62, x63, x64, x65, x66, x67, x68, x69, x70, x71, x72, x73])), (h2, .inl (aC 0, 1000, .inl f_136))] := hD
          refine lv_aload_n hx hb dX11_feed_104 rfl (lv_at hl 3 rfl) ?_
          refine lv_dup hx hb dX11_feed_105 rfl ?_
          refine xget F hP 0 rfl rfl inX11 1 (by decide) tb1183 rfl dX11_feed_106 ?_
          refine lv_iconst (v := 1) hx hb dX11_feed_109 (by decide) ?_
          refine lv_iadd hx hb dX11_feed_110 ?_
          refine relit (v := (nI (n + 1))) (nadd (a := n) (b := 1) (by omega)) ?_
          refine xput F hP hD hS 0 rfl rfl inX11 tyX11_ok nmX11 1 (by decide) tb1183 rfl rfl rfl (Nat.le_of_ble_eq_true rfl) dX11_feed_111 (fun H locs hP hD hS => ?_)
          have hP : va_P g vwCl [(h1, .inr (11, [.int 0, .int (nI (n + 1)), .ref h2, x3, x4, x5, x6, x7, x8, x9, x10, x11, x12, x13, x14, x15, x16, x17, x18, x19, x20, x21, x22, x23, x24, x25, x26, x27, x28, x29, x30, x31, x32, x33, x34, x35, x36, x37, x38, x39, x40, x41, x42, x43, x44, x45, x46, x47, x48, x49, x50, x51, x52, x53, x54, x55, x56, x57, x58, x59, x60, x61, x62, x63, x64, x65, x66, x67, x68, x69, x70, x71, x72, x73])), (h2, .inl (aC 0, 1000, .inl f_136))] H := hP
          have hD : va_D A [(h1, .inr (11, [.int 0, .int (nI (n + 1)), .ref h2, x3, x4, x5, x6, x7, x8, x9, x10, x11, x12, x13, x14, x15, x16, x17, x18, x19, x20, x21, x22, x23, x24, x25, x26, x27, x28, x29, x30, x31, x32, x33, x34, x35, x36, x37, x38, x39, x40, x41, x42, x43, x44, x45, x46, x47, x48, x49, x50, x51, x52, x53, x54, x55, x56, x57, x58, x59, x60, x61, x62, x63, x64, x65, x66, x67, x68, x69, x70, x71, x72, x73])), (h2, .inl (aC 0, 1000, .inl f_136))] := hD
          refine lv_iinc (v := 8) (lv' := [(7, .int 8), (10, .int Sv), (8, .long m_1), (0, .ref h1), (1, .long m_1), (3, .long m_2), (5, .long m_3)]) hx hb dX11_feed_114 hl (k := 2) rfl (by decide +kernel) (by decide) rfl (fun ls hl => ?_)
          refine lv_goto (tgt := 8) hx hb dX11_feed_117 (by decide) ?_
          exact hc8 (n + 1) f_136 _ _ _ (f8_up 7 hn eSv (okb_in c134 c135)) (by omega) (hP.sub [0, 1] rfl) (hD.sub [0, 1] (by decide) rfl) hS (lv_sub hl [0, 3, 4, 5, 6] rfl)
  have hc6 : ∀ (n : Nat) (f : Nat → Int32) (H : Heap) (locs : List Loc) (ls : Array Slot), n = 0 + f8 m_1 6 → n ≤ 6 → va_P g vwCl [(h1, .inr (11, [.int 0, .int (nI n), .ref h2, x3, x4, x5, x6, x7, x8, x9, x10, x11, x12, x13, x14, x15, x16, x17, x18, x19, x20, x21, x22, x23, x24, x25, x26, x27, x28, x29, x30, x31, x32, x33, x34, x35, x36, x37, x38, x39, x40, x41, x42, x43, x44, x45, x46, x47, x48, x49, x50, x51, x52, x53, x54, x55, x56, x57, x58, x59, x60, x61, x62, x63, x64, x65, x66, x67, x68, x69, x70, x71, x72, x73])), (h2, .inl (aC 0, 1000, .inl f))] H → va_D A [(h1, .inr (11, [.int 0, .int (nI n), .ref h2, x3, x4, x5, x6, x7, x8, x9, x10, x11, x12, x13, x14, x15, x16, x17, x18, x19, x20, x21, x22, x23, x24, x25, x26, x27, x28, x29, x30, x31, x32, x33, x34, x35, x36, x37, x38, x39, x40, x41, x42, x43, x44, x45, x46, x47, x48, x49, x50, x51, x52, x53, x54, x55, x56, x57, x58, x59, x60, x61, x62, x63, x64, x65, x66, x67, x68, x69, x70, x71, x72, x73])), (h2, .inl (aC 0, 1000, .inl f))] → va_S A s.heap H locs → lv_has ls 11 [(7, .int 6), (0, .ref h1), (1, .long m_1), (3, .long m_2), (5, .long m_3)] → W p l e (rmL 1 0 0) s m [.ref h1, .long m_1, .long m_2, .long m_3].toArray below meth c H locs 0 0 (MQ below (QI g (fun (r : Int32) (_ : Unit) => r = (nI (((0 + f8 m_1 8) + f8 m_2 8) + f8 m_3 8))) (fun (_ : Unit) => []) A) [.ref h1, .long m_1, .long m_2, .long m_3].toArray s 0 0 A) (F0 m 8 ls []) := by
    intro n f H locs ls hn hb_ hP hD hS hl
    refine lv_iload hx hb dX11_feed_8 (lv_at hl 0 rfl) ?_
    refine lv_bipush (v := 24) hx hb dX11_feed_10 (by decide) ?_
    refine lv_icmp_ge (tgt := 120) hx hb dX11_feed_12 (by decide) (fun c_ => absurd c_ (by decide +kernel)) (fun _ => ?_)
    refine lv_iload hx hb dX11_feed_15 (lv_at hl 0 rfl) ?_
    refine lv_bipush (v := 8) hx hb dX11_feed_17 (by decide) ?_
    refine lv_icmp_ge (tgt := 26) hx hb dX11_feed_19 (by decide) (fun c_ => absurd c_ (by decide +kernel)) (fun _ => ?_)
    refine lv_lload_n hx hb dX11_feed_22 rfl (lv_at hl 2 rfl) ?_
    refine lv_goto (tgt := 39) hx hb dX11_feed_23 (by decide) ?_
    refine lv_lstore (lv' := [(8, .long m_1), (7, .int 6), (0, .ref h1), (1, .long m_1), (3, .long m_2), (5, .long m_3)]) hx hb dX11_feed_39 hl (by decide) rfl (fun ls hl => ?_)
    refine lv_lload hx hb dX11_feed_41 (lv_at hl 0 rfl) ?_
    refine lv_bipush (v := 56) hx hb dX11_feed_43 (by decide) ?_
    refine lv_bipush (v := 8) hx hb dX11_feed_45 (by decide) ?_
    refine lv_iload hx hb dX11_feed_47 (lv_at hl 1 rfl) ?_
    refine lv_bipush (v := 7) hx hb dX11_feed_49 (by decide) ?_
    refine lv_iand hx hb dX11_feed_51 ?_
    refine relit (v := 6) (by decide +kernel) ?_
    refine lv_imul hx hb dX11_feed_52 ?_
    refine relit (v := 48) (by decide +kernel) ?_
    refine lv_isub hx hb dX11_feed_53 ?_
    refine relit (v := 8) (by decide +kernel) ?_
    refine lv_lushr (v := ((m_1.toUInt64 >>> ((8 : Int32).toInt64.toUInt64 &&& Int64.toUInt64 63)).toInt64)) hx hb dX11_feed_54 rfl ?_
    refine lv_ldc2 (v := 255) hx hb hown (hts _ tb1414) dX11_feed_55 ?_
    refine lv_land hx hb dX11_feed_58 ?_
    refine lv_l2i (v := ((((m_1.toUInt64 >>> ((8 : Int32).toInt64.toUInt64 &&& Int64.toUInt64 63)).toInt64) &&& 255).toInt32)) hx hb dX11_feed_59 rfl ?_
    obtain ⟨Sv, eSv⟩ : ∃ z : Int32, z = ((((m_1.toUInt64 >>> ((8 : Int32).toInt64.toUInt64 &&& Int64.toUInt64 63)).toInt64) &&& 255).toInt32) := ⟨_, rfl⟩
    refine relit (v := Sv) eSv.symm ?_
    refine lv_istore (lv' := [(10, .int Sv), (8, .long m_1), (7, .int 6), (0, .ref h1), (1, .long m_1), (3, .long m_2), (5, .long m_3)]) hx hb dX11_feed_60 hl (by decide) rfl (fun ls hl => ?_)
    refine lv_aload_n hx hb dX11_feed_62 rfl (lv_at hl 3 rfl) ?_
    refine xget F hP 0 rfl rfl inX11 1 (by decide) tb1183 rfl dX11_feed_63 ?_
    refine lv_sipush (v := 1000) hx hb dX11_feed_66 (by decide) ?_
    refine lv_icmp_ge (tgt := 114) hx hb dX11_feed_69 (by decide) (fun c_ => absurd c_ (show ¬ (nI 1000 ≤ nI n) by rw [nI_leI (by omega) (by omega)]; omega)) (fun _ => ?_)
    refine lv_iload hx hb dX11_feed_72 (lv_at hl 0 rfl) ?_
    refine lv_bipush (v := 10) hx hb dX11_feed_74 (by decide) ?_
    refine lv_icmp_eq (tgt := 93) hx hb dX11_feed_76 (by decide) (fun c139 => ?_) (fun c139 => ?_)
    · refine lv_aload_n hx hb dX11_feed_93 rfl (lv_at hl 3 rfl) ?_
      refine xget F hP 0 rfl rfl inX11 2 (by decide) tb1184 rfl dX11_feed_94 ?_
      refine lv_aload_n hx hb dX11_feed_97 rfl (lv_at hl 3 rfl) ?_
      refine xget F hP 0 rfl rfl inX11 1 (by decide) tb1183 rfl dX11_feed_98 ?_
      refine lv_iload hx hb dX11_feed_101 (lv_at hl 0 rfl) ?_
      refine xistE F hP hD hS 1 rfl n (nI_pos (by omega)) (nI_clamp (by omega)) (by omega) dX11_feed_103 (fun f_140 H locs hP hD hS => ?_)
      have hP : va_P g vwCl [(h1, .inr (11, [.int 0, .int (nI n), .ref h2, x3, x4, x5, x6, x7, x8, x9, x10, x11, x12, x13, x14, x15, x16, x17, x18, x19, x20, x21, x22, x23, x24, x25, x26, x27, x28, x29, x30, x31, x32, x33, x34, x35, x36, x37, x38, x39, x40, x41, x42, x43, x44, x45, x46, x47, x48, x49, x50, x51, x52, x53, x54, x55, x56, x57, x58, x59, x60, x61, x62, x63, x64, x65, x66, x67, x68, x69, x70, x71, x72, x73])), (h2, .inl (aC 0, 1000, .inl f_140))] H := hP
      have hD : va_D A [(h1, .inr (11, [.int 0, .int (nI n), .ref h2, x3, x4, x5, x6, x7, x8, x9, x10, x11, x12, x13, x14, x15, x16, x17, x18, x19, x20, x21, x22, x23, x24, x25, x26, x27, x28, x29, x30, x31, x32, x33, x34, x35, x36, x37, x38, x39, x40, x41, x42, x43, x44, x45, x46, x47, x48, x49, x50, x51, x52, x53, x54, x55, x56, x57, x58, x59, x60, x61, x62, x63, x64, x65, x66, x67, x68, x69, x70, x71, x72, x73])), (h2, .inl (aC 0, 1000, .inl f_140))] := hD
      refine lv_aload_n hx hb dX11_feed_104 rfl (lv_at hl 3 rfl) ?_
      refine lv_dup hx hb dX11_feed_105 rfl ?_
      refine xget F hP 0 rfl rfl inX11 1 (by decide) tb1183 rfl dX11_feed_106 ?_
      refine lv_iconst (v := 1) hx hb dX11_feed_109 (by decide) ?_
      refine lv_iadd hx hb dX11_feed_110 ?_
      refine relit (v := (nI (n + 1))) (nadd (a := n) (b := 1) (by omega)) ?_
      refine xput F hP hD hS 0 rfl rfl inX11 tyX11_ok nmX11 1 (by decide) tb1183 rfl rfl rfl (Nat.le_of_ble_eq_true rfl) dX11_feed_111 (fun H locs hP hD hS => ?_)
      have hP : va_P g vwCl [(h1, .inr (11, [.int 0, .int (nI (n + 1)), .ref h2, x3, x4, x5, x6, x7, x8, x9, x10, x11, x12, x13, x14, x15, x16, x17, x18, x19, x20, x21, x22, x23, x24, x25, x26, x27, x28, x29, x30, x31, x32, x33, x34, x35, x36, x37, x38, x39, x40, x41, x42, x43, x44, x45, x46, x47, x48, x49, x50, x51, x52, x53, x54, x55, x56, x57, x58, x59, x60, x61, x62, x63, x64, x65, x66, x67, x68, x69, x70, x71, x72, x73])), (h2, .inl (aC 0, 1000, .inl f_140))] H := hP
      have hD : va_D A [(h1, .inr (11, [.int 0, .int (nI (n + 1)), .ref h2, x3, x4, x5, x6, x7, x8, x9, x10, x11, x12, x13, x14, x15, x16, x17, x18, x19, x20, x21, x22, x23, x24, x25, x26, x27, x28, x29, x30, x31, x32, x33, x34, x35, x36, x37, x38, x39, x40, x41, x42, x43, x44, x45, x46, x47, x48, x49, x50, x51, x52, x53, x54, x55, x56, x57, x58, x59, x60, x61, x62, x63, x64, x65, x66, x67, x68, x69, x70, x71, x72, x73])), (h2, .inl (aC 0, 1000, .inl f_140))] := hD
      refine lv_iinc (v := 7) (lv' := [(7, .int 7), (10, .int Sv), (8, .long m_1), (0, .ref h1), (1, .long m_1), (3, .long m_2), (5, .long m_3)]) hx hb dX11_feed_114 hl (k := 2) rfl (by decide +kernel) (by decide) rfl (fun ls hl => ?_)
      refine lv_goto (tgt := 8) hx hb dX11_feed_117 (by decide) ?_
      exact hc7 (n + 1) f_140 _ _ _ (f8_up 6 hn eSv (okb_eq c139)) (by omega) (hP.sub [0, 1] rfl) (hD.sub [0, 1] (by decide) rfl) hS (lv_sub hl [0, 3, 4, 5, 6] rfl)
    · refine lv_iload hx hb dX11_feed_79 (lv_at hl 0 rfl) ?_
      refine lv_bipush (v := 32) hx hb dX11_feed_81 (by decide) ?_
      refine lv_icmp_lt (tgt := 114) hx hb dX11_feed_83 (by decide) (fun c141 => ?_) (fun c141 => ?_)
      · refine lv_iinc (v := 7) (lv' := [(7, .int 7), (10, .int Sv), (8, .long m_1), (0, .ref h1), (1, .long m_1), (3, .long m_2), (5, .long m_3)]) hx hb dX11_feed_114 hl (k := 2) rfl (by decide +kernel) (by decide) rfl (fun ls hl => ?_)
        refine lv_goto (tgt := 8) hx hb dX11_feed_117 (by decide) ?_
        exact hc7 (n) f _ _ _ (f8_st 6 hn eSv (okb_lo c139 c141)) (by omega) (hP.sub [0, 1] rfl) (hD.sub [0, 1] (by decide) rfl) hS (lv_sub hl [0, 3, 4, 5, 6] rfl)
      · refine lv_iload hx hb dX11_feed_86 (lv_at hl 0 rfl) ?_
        refine lv_bipush (v := 126) hx hb dX11_feed_88 (by decide) ?_
        refine lv_icmp_gt (tgt := 114) hx hb dX11_feed_90 (by decide) (fun c142 => ?_) (fun c142 => ?_)
        · refine lv_iinc (v := 7) (lv' := [(7, .int 7), (10, .int Sv), (8, .long m_1), (0, .ref h1), (1, .long m_1), (3, .long m_2), (5, .long m_3)]) hx hb dX11_feed_114 hl (k := 2) rfl (by decide +kernel) (by decide) rfl (fun ls hl => ?_)
          refine lv_goto (tgt := 8) hx hb dX11_feed_117 (by decide) ?_
          exact hc7 (n) f _ _ _ (f8_st 6 hn eSv (okb_hi c139 c142)) (by omega) (hP.sub [0, 1] rfl) (hD.sub [0, 1] (by decide) rfl) hS (lv_sub hl [0, 3, 4, 5, 6] rfl)
        · refine lv_aload_n hx hb dX11_feed_93 rfl (lv_at hl 3 rfl) ?_
          refine xget F hP 0 rfl rfl inX11 2 (by decide) tb1184 rfl dX11_feed_94 ?_
          refine lv_aload_n hx hb dX11_feed_97 rfl (lv_at hl 3 rfl) ?_
          refine xget F hP 0 rfl rfl inX11 1 (by decide) tb1183 rfl dX11_feed_98 ?_
          refine lv_iload hx hb dX11_feed_101 (lv_at hl 0 rfl) ?_
          refine xistE F hP hD hS 1 rfl n (nI_pos (by omega)) (nI_clamp (by omega)) (by omega) dX11_feed_103 (fun f_143 H locs hP hD hS => ?_)
          have hP : va_P g vwCl [(h1, .inr (11, [.int 0, .int (nI n), .ref h2, x3, x4, x5, x6, x7, x8, x9, x10, x11, x12, x13, x14, x15, x16, x17, x18, x19, x20, x21, x22, x23, x24, x25, x26, x27, x28, x29, x30, x31, x32, x33, x34, x35, x36, x37, x38, x39, x40, x41, x42, x43, x44, x45, x46, x47, x48, x49, x50, x51, x52, x53, x54, x55, x56, x57, x58, x59, x60, x61, x62, x63, x64, x65, x66, x67, x68, x69, x70, x71, x72, x73])), (h2, .inl (aC 0, 1000, .inl f_143))] H := hP
          have hD : va_D A [(h1, .inr (11, [.int 0, .int (nI n), .ref h2, x3, x4, x5, x6, x7, x8, x9, x10, x11, x12, x13, x14, x15, x16, x17, x18, x19, x20, x21, x22, x23, x24, x25, x26, x27, x28, x29, x30, x31, x32, x33, x34, x35, x36, x37, x38, x39, x40, x41, x42, x43, x44, x45, x46, x47, x48, x49, x50, x51, x52, x53, x54, x55, x56, x57, x58, x59, x60, x61, x62, x63, x64, x65, x66, x67, x68, x69, x70, x71, x72, x73])), (h2, .inl (aC 0, 1000, .inl f_143))] := hD
          refine lv_aload_n hx hb dX11_feed_104 rfl (lv_at hl 3 rfl) ?_
          refine lv_dup hx hb dX11_feed_105 rfl ?_
          refine xget F hP 0 rfl rfl inX11 1 (by decide) tb1183 rfl dX11_feed_106 ?_
          refine lv_iconst (v := 1) hx hb dX11_feed_109 (by decide) ?_
          refine lv_iadd hx hb dX11_feed_110 ?_
          refine relit (v := (nI (n + 1))) (nadd (a := n) (b := 1) (by omega)) ?_
          refine xput F hP hD hS 0 rfl rfl inX11 tyX11_ok nmX11 1 (by decide) tb1183 rfl rfl rfl (Nat.le_of_ble_eq_true rfl) dX11_feed_111 (fun H locs hP hD hS => ?_)
          have hP : va_P g vwCl [(h1, .inr (11, [.int 0, .int (nI (n + 1)), .ref h2, x3, x4, x5, x6, x7, x8, x9, x10, x11, x12, x13, x14, x15, x16, x17, x18, x19, x20, x21, x22, x23, x24, x25, x26, x27, x28, x29, x30, x31, x32, x33, x34, x35, x36, x37, x38, x39, x40, x41, x42, x43, x44, x45, x46, x47, x48, x49, x50, x51, x52, x53, x54, x55, x56, x57, x58, x59, x60, x61, x62, x63, x64, x65, x66, x67, x68, x69, x70, x71, x72, x73])), (h2, .inl (aC 0, 1000, .inl f_143))] H := hP
          have hD : va_D A [(h1, .inr (11, [.int 0, .int (nI (n + 1)), .ref h2, x3, x4, x5, x6, x7, x8, x9, x10, x11, x12, x13, x14, x15, x16, x17, x18, x19, x20, x21, x22, x23, x24, x25, x26, x27, x28, x29, x30, x31, x32, x33, x34, x35, x36, x37, x38, x39, x40, x41, x42, x43, x44, x45, x46, x47, x48, x49, x50, x51, x52, x53, x54, x55, x56, x57, x58, x59, x60, x61, x62, x63, x64, x65, x66, x67, x68, x69, x70, x71, x72, x73])), (h2, .inl (aC 0, 1000, .inl f_143))] := hD
          refine lv_iinc (v := 7) (lv' := [(7, .int 7), (10, .int Sv), (8, .long m_1), (0, .ref h1), (1, .long m_1), (3, .long m_2), (5, .long m_3)]) hx hb dX11_feed_114 hl (k := 2) rfl (by decide +kernel) (by decide) rfl (fun ls hl => ?_)
          refine lv_goto (tgt := 8) hx hb dX11_feed_117 (by decide) ?_
          exact hc7 (n + 1) f_143 _ _ _ (f8_up 6 hn eSv (okb_in c141 c142)) (by omega) (hP.sub [0, 1] rfl) (hD.sub [0, 1] (by decide) rfl) hS (lv_sub hl [0, 3, 4, 5, 6] rfl)
  have hc5 : ∀ (n : Nat) (f : Nat → Int32) (H : Heap) (locs : List Loc) (ls : Array Slot), n = 0 + f8 m_1 5 → n ≤ 5 → va_P g vwCl [(h1, .inr (11, [.int 0, .int (nI n), .ref h2, x3, x4, x5, x6, x7, x8, x9, x10, x11, x12, x13, x14, x15, x16, x17, x18, x19, x20, x21, x22, x23, x24, x25, x26, x27, x28, x29, x30, x31, x32, x33, x34, x35, x36, x37, x38, x39, x40, x41, x42, x43, x44, x45, x46, x47, x48, x49, x50, x51, x52, x53, x54, x55, x56, x57, x58, x59, x60, x61, x62, x63, x64, x65, x66, x67, x68, x69, x70, x71, x72, x73])), (h2, .inl (aC 0, 1000, .inl f))] H → va_D A [(h1, .inr (11, [.int 0, .int (nI n), .ref h2, x3, x4, x5, x6, x7, x8, x9, x10, x11, x12, x13, x14, x15, x16, x17, x18, x19, x20, x21, x22, x23, x24, x25, x26, x27, x28, x29, x30, x31, x32, x33, x34, x35, x36, x37, x38, x39, x40, x41, x42, x43, x44, x45, x46, x47, x48, x49, x50, x51, x52, x53, x54, x55, x56, x57, x58, x59, x60, x61, x62, x63, x64, x65, x66, x67, x68, x69, x70, x71, x72, x73])), (h2, .inl (aC 0, 1000, .inl f))] → va_S A s.heap H locs → lv_has ls 11 [(7, .int 5), (0, .ref h1), (1, .long m_1), (3, .long m_2), (5, .long m_3)] → W p l e (rmL 1 0 0) s m [.ref h1, .long m_1, .long m_2, .long m_3].toArray below meth c H locs 0 0 (MQ below (QI g (fun (r : Int32) (_ : Unit) => r = (nI (((0 + f8 m_1 8) + f8 m_2 8) + f8 m_3 8))) (fun (_ : Unit) => []) A) [.ref h1, .long m_1, .long m_2, .long m_3].toArray s 0 0 A) (F0 m 8 ls []) := by
    intro n f H locs ls hn hb_ hP hD hS hl
    refine lv_iload hx hb dX11_feed_8 (lv_at hl 0 rfl) ?_
    refine lv_bipush (v := 24) hx hb dX11_feed_10 (by decide) ?_
    refine lv_icmp_ge (tgt := 120) hx hb dX11_feed_12 (by decide) (fun c_ => absurd c_ (by decide +kernel)) (fun _ => ?_)
    refine lv_iload hx hb dX11_feed_15 (lv_at hl 0 rfl) ?_
    refine lv_bipush (v := 8) hx hb dX11_feed_17 (by decide) ?_
    refine lv_icmp_ge (tgt := 26) hx hb dX11_feed_19 (by decide) (fun c_ => absurd c_ (by decide +kernel)) (fun _ => ?_)
    refine lv_lload_n hx hb dX11_feed_22 rfl (lv_at hl 2 rfl) ?_
    refine lv_goto (tgt := 39) hx hb dX11_feed_23 (by decide) ?_
    refine lv_lstore (lv' := [(8, .long m_1), (7, .int 5), (0, .ref h1), (1, .long m_1), (3, .long m_2), (5, .long m_3)]) hx hb dX11_feed_39 hl (by decide) rfl (fun ls hl => ?_)
    refine lv_lload hx hb dX11_feed_41 (lv_at hl 0 rfl) ?_
    refine lv_bipush (v := 56) hx hb dX11_feed_43 (by decide) ?_
    refine lv_bipush (v := 8) hx hb dX11_feed_45 (by decide) ?_
    refine lv_iload hx hb dX11_feed_47 (lv_at hl 1 rfl) ?_
    refine lv_bipush (v := 7) hx hb dX11_feed_49 (by decide) ?_
    refine lv_iand hx hb dX11_feed_51 ?_
    refine relit (v := 5) (by decide +kernel) ?_
    refine lv_imul hx hb dX11_feed_52 ?_
    refine relit (v := 40) (by decide +kernel) ?_
    refine lv_isub hx hb dX11_feed_53 ?_
    refine relit (v := 16) (by decide +kernel) ?_
    refine lv_lushr (v := ((m_1.toUInt64 >>> ((16 : Int32).toInt64.toUInt64 &&& Int64.toUInt64 63)).toInt64)) hx hb dX11_feed_54 rfl ?_
    refine lv_ldc2 (v := 255) hx hb hown (hts _ tb1414) dX11_feed_55 ?_
    refine lv_land hx hb dX11_feed_58 ?_
    refine lv_l2i (v := ((((m_1.toUInt64 >>> ((16 : Int32).toInt64.toUInt64 &&& Int64.toUInt64 63)).toInt64) &&& 255).toInt32)) hx hb dX11_feed_59 rfl ?_
    obtain ⟨Sv, eSv⟩ : ∃ z : Int32, z = ((((m_1.toUInt64 >>> ((16 : Int32).toInt64.toUInt64 &&& Int64.toUInt64 63)).toInt64) &&& 255).toInt32) := ⟨_, rfl⟩
    refine relit (v := Sv) eSv.symm ?_
    refine lv_istore (lv' := [(10, .int Sv), (8, .long m_1), (7, .int 5), (0, .ref h1), (1, .long m_1), (3, .long m_2), (5, .long m_3)]) hx hb dX11_feed_60 hl (by decide) rfl (fun ls hl => ?_)
    refine lv_aload_n hx hb dX11_feed_62 rfl (lv_at hl 3 rfl) ?_
    refine xget F hP 0 rfl rfl inX11 1 (by decide) tb1183 rfl dX11_feed_63 ?_
    refine lv_sipush (v := 1000) hx hb dX11_feed_66 (by decide) ?_
    refine lv_icmp_ge (tgt := 114) hx hb dX11_feed_69 (by decide) (fun c_ => absurd c_ (show ¬ (nI 1000 ≤ nI n) by rw [nI_leI (by omega) (by omega)]; omega)) (fun _ => ?_)
    refine lv_iload hx hb dX11_feed_72 (lv_at hl 0 rfl) ?_
    refine lv_bipush (v := 10) hx hb dX11_feed_74 (by decide) ?_
    refine lv_icmp_eq (tgt := 93) hx hb dX11_feed_76 (by decide) (fun c146 => ?_) (fun c146 => ?_)
    · refine lv_aload_n hx hb dX11_feed_93 rfl (lv_at hl 3 rfl) ?_
      refine xget F hP 0 rfl rfl inX11 2 (by decide) tb1184 rfl dX11_feed_94 ?_
      refine lv_aload_n hx hb dX11_feed_97 rfl (lv_at hl 3 rfl) ?_
      refine xget F hP 0 rfl rfl inX11 1 (by decide) tb1183 rfl dX11_feed_98 ?_
      refine lv_iload hx hb dX11_feed_101 (lv_at hl 0 rfl) ?_
      refine xistE F hP hD hS 1 rfl n (nI_pos (by omega)) (nI_clamp (by omega)) (by omega) dX11_feed_103 (fun f_147 H locs hP hD hS => ?_)
      have hP : va_P g vwCl [(h1, .inr (11, [.int 0, .int (nI n), .ref h2, x3, x4, x5, x6, x7, x8, x9, x10, x11, x12, x13, x14, x15, x16, x17, x18, x19, x20, x21, x22, x23, x24, x25, x26, x27, x28, x29, x30, x31, x32, x33, x34, x35, x36, x37, x38, x39, x40, x41, x42, x43, x44, x45, x46, x47, x48, x49, x50, x51, x52, x53, x54, x55, x56, x57, x58, x59, x60, x61, x62, x63, x64, x65, x66, x67, x68, x69, x70, x71, x72, x73])), (h2, .inl (aC 0, 1000, .inl f_147))] H := hP
      have hD : va_D A [(h1, .inr (11, [.int 0, .int (nI n), .ref h2, x3, x4, x5, x6, x7, x8, x9, x10, x11, x12, x13, x14, x15, x16, x17, x18, x19, x20, x21, x22, x23, x24, x25, x26, x27, x28, x29, x30, x31, x32, x33, x34, x35, x36, x37, x38, x39, x40, x41, x42, x43, x44, x45, x46, x47, x48, x49, x50, x51, x52, x53, x54, x55, x56, x57, x58, x59, x60, x61, x62, x63, x64, x65, x66, x67, x68, x69, x70, x71, x72, x73])), (h2, .inl (aC 0, 1000, .inl f_147))] := hD
      refine lv_aload_n hx hb dX11_feed_104 rfl (lv_at hl 3 rfl) ?_
      refine lv_dup hx hb dX11_feed_105 rfl ?_
      refine xget F hP 0 rfl rfl inX11 1 (by decide) tb1183 rfl dX11_feed_106 ?_
      refine lv_iconst (v := 1) hx hb dX11_feed_109 (by decide) ?_
      refine lv_iadd hx hb dX11_feed_110 ?_
      refine relit (v := (nI (n + 1))) (nadd (a := n) (b := 1) (by omega)) ?_
      refine xput F hP hD hS 0 rfl rfl inX11 tyX11_ok nmX11 1 (by decide) tb1183 rfl rfl rfl (Nat.le_of_ble_eq_true rfl) dX11_feed_111 (fun H locs hP hD hS => ?_)
      have hP : va_P g vwCl [(h1, .inr (11, [.int 0, .int (nI (n + 1)), .ref h2, x3, x4, x5, x6, x7, x8, x9, x10, x11, x12, x13, x14, x15, x16, x17, x18, x19, x20, x21, x22, x23, x24, x25, x26, x27, x28, x29, x30, x31, x32, x33, x34, x35, x36, x37, x38, x39, x40, x41, x42, x43, x44, x45, x46, x47, x48, x49, x50, x51, x52, x53, x54, x55, x56, x57, x58, x59, x60, x61, x62, x63, x64, x65, x66, x67, x68, x69, x70, x71, x72, x73])), (h2, .inl (aC 0, 1000, .inl f_147))] H := hP
      have hD : va_D A [(h1, .inr (11, [.int 0, .int (nI (n + 1)), .ref h2, x3, x4, x5, x6, x7, x8, x9, x10, x11, x12, x13, x14, x15, x16, x17, x18, x19, x20, x21, x22, x23, x24, x25, x26, x27, x28, x29, x30, x31, x32, x33, x34, x35, x36, x37, x38, x39, x40, x41, x42, x43, x44, x45, x46, x47, x48, x49, x50, x51, x52, x53, x54, x55, x56, x57, x58, x59, x60, x61, x62, x63, x64, x65, x66, x67, x68, x69, x70, x71, x72, x73])), (h2, .inl (aC 0, 1000, .inl f_147))] := hD
      refine lv_iinc (v := 6) (lv' := [(7, .int 6), (10, .int Sv), (8, .long m_1), (0, .ref h1), (1, .long m_1), (3, .long m_2), (5, .long m_3)]) hx hb dX11_feed_114 hl (k := 2) rfl (by decide +kernel) (by decide) rfl (fun ls hl => ?_)
      refine lv_goto (tgt := 8) hx hb dX11_feed_117 (by decide) ?_
      exact hc6 (n + 1) f_147 _ _ _ (f8_up 5 hn eSv (okb_eq c146)) (by omega) (hP.sub [0, 1] rfl) (hD.sub [0, 1] (by decide) rfl) hS (lv_sub hl [0, 3, 4, 5, 6] rfl)
    · refine lv_iload hx hb dX11_feed_79 (lv_at hl 0 rfl) ?_
      refine lv_bipush (v := 32) hx hb dX11_feed_81 (by decide) ?_
      refine lv_icmp_lt (tgt := 114) hx hb dX11_feed_83 (by decide) (fun c148 => ?_) (fun c148 => ?_)
      · refine lv_iinc (v := 6) (lv' := [(7, .int 6), (10, .int Sv), (8, .long m_1), (0, .ref h1), (1, .long m_1), (3, .long m_2), (5, .long m_3)]) hx hb dX11_feed_114 hl (k := 2) rfl (by decide +kernel) (by decide) rfl (fun ls hl => ?_)
        refine lv_goto (tgt := 8) hx hb dX11_feed_117 (by decide) ?_
        exact hc6 (n) f _ _ _ (f8_st 5 hn eSv (okb_lo c146 c148)) (by omega) (hP.sub [0, 1] rfl) (hD.sub [0, 1] (by decide) rfl) hS (lv_sub hl [0, 3, 4, 5, 6] rfl)
      · refine lv_iload hx hb dX11_feed_86 (lv_at hl 0 rfl) ?_
        refine lv_bipush (v := 126) hx hb dX11_feed_88 (by decide) ?_
        refine lv_icmp_gt (tgt := 114) hx hb dX11_feed_90 (by decide) (fun c149 => ?_) (fun c149 => ?_)
        · refine lv_iinc (v := 6) (lv' := [(7, .int 6), (10, .int Sv), (8, .long m_1), (0, .ref h1), (1, .long m_1), (3, .long m_2), (5, .long m_3)]) hx hb dX11_feed_114 hl (k := 2) rfl (by decide +kernel) (by decide) rfl (fun ls hl => ?_)
          refine lv_goto (tgt := 8) hx hb dX11_feed_117 (by decide) ?_
          exact hc6 (n) f _ _ _ (f8_st 5 hn eSv (okb_hi c146 c149)) (by omega) (hP.sub [0, 1] rfl) (hD.sub [0, 1] (by decide) rfl) hS (lv_sub hl [0, 3, 4, 5, 6] rfl)
        · refine lv_aload_n hx hb dX11_feed_93 rfl (lv_at hl 3 rfl) ?_
          refine xget F hP 0 rfl rfl inX11 2 (by decide) tb1184 rfl dX11_feed_94 ?_
          refine lv_aload_n hx hb dX11_feed_97 rfl (lv_at hl 3 rfl) ?_
          refine xget F hP 0 rfl rfl inX11 1 (by decide) tb1183 rfl dX11_feed_98 ?_
          refine lv_iload hx hb dX11_feed_101 (lv_at hl 0 rfl) ?_
          refine xistE F hP hD hS 1 rfl n (nI_pos (by omega)) (nI_clamp (by omega)) (by omega) dX11_feed_103 (fun f_150 H locs hP hD hS => ?_)
          have hP : va_P g vwCl [(h1, .inr (11, [.int 0, .int (nI n), .ref h2, x3, x4, x5, x6, x7, x8, x9, x10, x11, x12, x13, x14, x15, x16, x17, x18, x19, x20, x21, x22, x23, x24, x25, x26, x27, x28, x29, x30, x31, x32, x33, x34, x35, x36, x37, x38, x39, x40, x41, x42, x43, x44, x45, x46, x47, x48, x49, x50, x51, x52, x53, x54, x55, x56, x57, x58, x59, x60, x61, x62, x63, x64, x65, x66, x67, x68, x69, x70, x71, x72, x73])), (h2, .inl (aC 0, 1000, .inl f_150))] H := hP
          have hD : va_D A [(h1, .inr (11, [.int 0, .int (nI n), .ref h2, x3, x4, x5, x6, x7, x8, x9, x10, x11, x12, x13, x14, x15, x16, x17, x18, x19, x20, x21, x22, x23, x24, x25, x26, x27, x28, x29, x30, x31, x32, x33, x34, x35, x36, x37, x38, x39, x40, x41, x42, x43, x44, x45, x46, x47, x48, x49, x50, x51, x52, x53, x54, x55, x56, x57, x58, x59, x60, x61, x62, x63, x64, x65, x66, x67, x68, x69, x70, x71, x72, x73])), (h2, .inl (aC 0, 1000, .inl f_150))] := hD
          refine lv_aload_n hx hb dX11_feed_104 rfl (lv_at hl 3 rfl) ?_
          refine lv_dup hx hb dX11_feed_105 rfl ?_
          refine xget F hP 0 rfl rfl inX11 1 (by decide) tb1183 rfl dX11_feed_106 ?_
          refine lv_iconst (v := 1) hx hb dX11_feed_109 (by decide) ?_
          refine lv_iadd hx hb dX11_feed_110 ?_
          refine relit (v := (nI (n + 1))) (nadd (a := n) (b := 1) (by omega)) ?_
          refine xput F hP hD hS 0 rfl rfl inX11 tyX11_ok nmX11 1 (by decide) tb1183 rfl rfl rfl (Nat.le_of_ble_eq_true rfl) dX11_feed_111 (fun H locs hP hD hS => ?_)
          have hP : va_P g vwCl [(h1, .inr (11, [.int 0, .int (nI (n + 1)), .ref h2, x3, x4, x5, x6, x7, x8, x9, x10, x11, x12, x13, x14, x15, x16, x17, x18, x19, x20, x21, x22, x23, x24, x25, x26, x27, x28, x29, x30, x31, x32, x33, x34, x35, x36, x37, x38, x39, x40, x41, x42, x43, x44, x45, x46, x47, x48, x49, x50, x51, x52, x53, x54, x55, x56, x57, x58, x59, x60, x61, x62, x63, x64, x65, x66, x67, x68, x69, x70, x71, x72, x73])), (h2, .inl (aC 0, 1000, .inl f_150))] H := hP
          have hD : va_D A [(h1, .inr (11, [.int 0, .int (nI (n + 1)), .ref h2, x3, x4, x5, x6, x7, x8, x9, x10, x11, x12, x13, x14, x15, x16, x17, x18, x19, x20, x21, x22, x23, x24, x25, x26, x27, x28, x29, x30, x31, x32, x33, x34, x35, x36, x37, x38, x39, x40, x41, x42, x43, x44, x45, x46, x47, x48, x49, x50, x51, x52, x53, x54, x55, x56, x57, x58, x59, x60, x61, x62, x63, x64, x65, x66, x67, x68, x69, x70, x71, x72, x73])), (h2, .inl (aC 0, 1000, .inl f_150))] := hD
          refine lv_iinc (v := 6) (lv' := [(7, .int 6), (10, .int Sv), (8, .long m_1), (0, .ref h1), (1, .long m_1), (3, .long m_2), (5, .long m_3)]) hx hb dX11_feed_114 hl (k := 2) rfl (by decide +kernel) (by decide) rfl (fun ls hl => ?_)
          refine lv_goto (tgt := 8) hx hb dX11_feed_117 (by decide) ?_
          exact hc6 (n + 1) f_150 _ _ _ (f8_up 5 hn eSv (okb_in c148 c149)) (by omega) (hP.sub [0, 1] rfl) (hD.sub [0, 1] (by decide) rfl) hS (lv_sub hl [0, 3, 4, 5, 6] rfl)
  have hc4 : ∀ (n : Nat) (f : Nat → Int32) (H : Heap) (locs : List Loc) (ls : Array Slot), n = 0 + f8 m_1 4 → n ≤ 4 → va_P g vwCl [(h1, .inr (11, [.int 0, .int (nI n), .ref h2, x3, x4, x5, x6, x7, x8, x9, x10, x11, x12, x13, x14, x15, x16, x17, x18, x19, x20, x21, x22, x23, x24, x25, x26, x27, x28, x29, x30, x31, x32, x33, x34, x35, x36, x37, x38, x39, x40, x41, x42, x43, x44, x45, x46, x47, x48, x49, x50, x51, x52, x53, x54, x55, x56, x57, x58, x59, x60, x61, x62, x63, x64, x65, x66, x67, x68, x69, x70, x71, x72, x73])), (h2, .inl (aC 0, 1000, .inl f))] H → va_D A [(h1, .inr (11, [.int 0, .int (nI n), .ref h2, x3, x4, x5, x6, x7, x8, x9, x10, x11, x12, x13, x14, x15, x16, x17, x18, x19, x20, x21, x22, x23, x24, x25, x26, x27, x28, x29, x30, x31, x32, x33, x34, x35, x36, x37, x38, x39, x40, x41, x42, x43, x44, x45, x46, x47, x48, x49, x50, x51, x52, x53, x54, x55, x56, x57, x58, x59, x60, x61, x62, x63, x64, x65, x66, x67, x68, x69, x70, x71, x72, x73])), (h2, .inl (aC 0, 1000, .inl f))] → va_S A s.heap H locs → lv_has ls 11 [(7, .int 4), (0, .ref h1), (1, .long m_1), (3, .long m_2), (5, .long m_3)] → W p l e (rmL 1 0 0) s m [.ref h1, .long m_1, .long m_2, .long m_3].toArray below meth c H locs 0 0 (MQ below (QI g (fun (r : Int32) (_ : Unit) => r = (nI (((0 + f8 m_1 8) + f8 m_2 8) + f8 m_3 8))) (fun (_ : Unit) => []) A) [.ref h1, .long m_1, .long m_2, .long m_3].toArray s 0 0 A) (F0 m 8 ls []) := by
    intro n f H locs ls hn hb_ hP hD hS hl
    refine lv_iload hx hb dX11_feed_8 (lv_at hl 0 rfl) ?_
    refine lv_bipush (v := 24) hx hb dX11_feed_10 (by decide) ?_
    refine lv_icmp_ge (tgt := 120) hx hb dX11_feed_12 (by decide) (fun c_ => absurd c_ (by decide +kernel)) (fun _ => ?_)
    refine lv_iload hx hb dX11_feed_15 (lv_at hl 0 rfl) ?_
    refine lv_bipush (v := 8) hx hb dX11_feed_17 (by decide) ?_
    refine lv_icmp_ge (tgt := 26) hx hb dX11_feed_19 (by decide) (fun c_ => absurd c_ (by decide +kernel)) (fun _ => ?_)
    refine lv_lload_n hx hb dX11_feed_22 rfl (lv_at hl 2 rfl) ?_
    refine lv_goto (tgt := 39) hx hb dX11_feed_23 (by decide) ?_
    refine lv_lstore (lv' := [(8, .long m_1), (7, .int 4), (0, .ref h1), (1, .long m_1), (3, .long m_2), (5, .long m_3)]) hx hb dX11_feed_39 hl (by decide) rfl (fun ls hl => ?_)
    refine lv_lload hx hb dX11_feed_41 (lv_at hl 0 rfl) ?_
    refine lv_bipush (v := 56) hx hb dX11_feed_43 (by decide) ?_
    refine lv_bipush (v := 8) hx hb dX11_feed_45 (by decide) ?_
    refine lv_iload hx hb dX11_feed_47 (lv_at hl 1 rfl) ?_
    refine lv_bipush (v := 7) hx hb dX11_feed_49 (by decide) ?_
    refine lv_iand hx hb dX11_feed_51 ?_
    refine relit (v := 4) (by decide +kernel) ?_
    refine lv_imul hx hb dX11_feed_52 ?_
    refine relit (v := 32) (by decide +kernel) ?_
    refine lv_isub hx hb dX11_feed_53 ?_
    refine relit (v := 24) (by decide +kernel) ?_
    refine lv_lushr (v := ((m_1.toUInt64 >>> ((24 : Int32).toInt64.toUInt64 &&& Int64.toUInt64 63)).toInt64)) hx hb dX11_feed_54 rfl ?_
    refine lv_ldc2 (v := 255) hx hb hown (hts _ tb1414) dX11_feed_55 ?_
    refine lv_land hx hb dX11_feed_58 ?_
    refine lv_l2i (v := ((((m_1.toUInt64 >>> ((24 : Int32).toInt64.toUInt64 &&& Int64.toUInt64 63)).toInt64) &&& 255).toInt32)) hx hb dX11_feed_59 rfl ?_
    obtain ⟨Sv, eSv⟩ : ∃ z : Int32, z = ((((m_1.toUInt64 >>> ((24 : Int32).toInt64.toUInt64 &&& Int64.toUInt64 63)).toInt64) &&& 255).toInt32) := ⟨_, rfl⟩
    refine relit (v := Sv) eSv.symm ?_
    refine lv_istore (lv' := [(10, .int Sv), (8, .long m_1), (7, .int 4), (0, .ref h1), (1, .long m_1), (3, .long m_2), (5, .long m_3)]) hx hb dX11_feed_60 hl (by decide) rfl (fun ls hl => ?_)
    refine lv_aload_n hx hb dX11_feed_62 rfl (lv_at hl 3 rfl) ?_
    refine xget F hP 0 rfl rfl inX11 1 (by decide) tb1183 rfl dX11_feed_63 ?_
    refine lv_sipush (v := 1000) hx hb dX11_feed_66 (by decide) ?_
    refine lv_icmp_ge (tgt := 114) hx hb dX11_feed_69 (by decide) (fun c_ => absurd c_ (show ¬ (nI 1000 ≤ nI n) by rw [nI_leI (by omega) (by omega)]; omega)) (fun _ => ?_)
    refine lv_iload hx hb dX11_feed_72 (lv_at hl 0 rfl) ?_
    refine lv_bipush (v := 10) hx hb dX11_feed_74 (by decide) ?_
    refine lv_icmp_eq (tgt := 93) hx hb dX11_feed_76 (by decide) (fun c153 => ?_) (fun c153 => ?_)
    · refine lv_aload_n hx hb dX11_feed_93 rfl (lv_at hl 3 rfl) ?_
      refine xget F hP 0 rfl rfl inX11 2 (by decide) tb1184 rfl dX11_feed_94 ?_
      refine lv_aload_n hx hb dX11_feed_97 rfl (lv_at hl 3 rfl) ?_
      refine xget F hP 0 rfl rfl inX11 1 (by decide) tb1183 rfl dX11_feed_98 ?_
      refine lv_iload hx hb dX11_feed_101 (lv_at hl 0 rfl) ?_
      refine xistE F hP hD hS 1 rfl n (nI_pos (by omega)) (nI_clamp (by omega)) (by omega) dX11_feed_103 (fun f_154 H locs hP hD hS => ?_)
      have hP : va_P g vwCl [(h1, .inr (11, [.int 0, .int (nI n), .ref h2, x3, x4, x5, x6, x7, x8, x9, x10, x11, x12, x13, x14, x15, x16, x17, x18, x19, x20, x21, x22, x23, x24, x25, x26, x27, x28, x29, x30, x31, x32, x33, x34, x35, x36, x37, x38, x39, x40, x41, x42, x43, x44, x45, x46, x47, x48, x49, x50, x51, x52, x53, x54, x55, x56, x57, x58, x59, x60, x61, x62, x63, x64, x65, x66, x67, x68, x69, x70, x71, x72, x73])), (h2, .inl (aC 0, 1000, .inl f_154))] H := hP
      have hD : va_D A [(h1, .inr (11, [.int 0, .int (nI n), .ref h2, x3, x4, x5, x6, x7, x8, x9, x10, x11, x12, x13, x14, x15, x16, x17, x18, x19, x20, x21, x22, x23, x24, x25, x26, x27, x28, x29, x30, x31, x32, x33, x34, x35, x36, x37, x38, x39, x40, x41, x42, x43, x44, x45, x46, x47, x48, x49, x50, x51, x52, x53, x54, x55, x56, x57, x58, x59, x60, x61, x62, x63, x64, x65, x66, x67, x68, x69, x70, x71, x72, x73])), (h2, .inl (aC 0, 1000, .inl f_154))] := hD
      refine lv_aload_n hx hb dX11_feed_104 rfl (lv_at hl 3 rfl) ?_
      refine lv_dup hx hb dX11_feed_105 rfl ?_
      refine xget F hP 0 rfl rfl inX11 1 (by decide) tb1183 rfl dX11_feed_106 ?_
      refine lv_iconst (v := 1) hx hb dX11_feed_109 (by decide) ?_
      refine lv_iadd hx hb dX11_feed_110 ?_
      refine relit (v := (nI (n + 1))) (nadd (a := n) (b := 1) (by omega)) ?_
      refine xput F hP hD hS 0 rfl rfl inX11 tyX11_ok nmX11 1 (by decide) tb1183 rfl rfl rfl (Nat.le_of_ble_eq_true rfl) dX11_feed_111 (fun H locs hP hD hS => ?_)
      have hP : va_P g vwCl [(h1, .inr (11, [.int 0, .int (nI (n + 1)), .ref h2, x3, x4, x5, x6, x7, x8, x9, x10, x11, x12, x13, x14, x15, x16, x17, x18, x19, x20, x21, x22, x23, x24, x25, x26, x27, x28, x29, x30, x31, x32, x33, x34, x35, x36, x37, x38, x39, x40, x41, x42, x43, x44, x45, x46, x47, x48, x49, x50, x51, x52, x53, x54, x55, x56, x57, x58, x59, x60, x61, x62, x63, x64, x65, x66, x67, x68, x69, x70, x71, x72, x73])), (h2, .inl (aC 0, 1000, .inl f_154))] H := hP
      have hD : va_D A [(h1, .inr (11, [.int 0, .int (nI (n + 1)), .ref h2, x3, x4, x5, x6, x7, x8, x9, x10, x11, x12, x13, x14, x15, x16, x17, x18, x19, x20, x21, x22, x23, x24, x25, x26, x27, x28, x29, x30, x31, x32, x33, x34, x35, x36, x37, x38, x39, x40, x41, x42, x43, x44, x45, x46, x47, x48, x49, x50, x51, x52, x53, x54, x55, x56, x57, x58, x59, x60, x61, x62, x63, x64, x65, x66, x67, x68, x69, x70, x71, x72, x73])), (h2, .inl (aC 0, 1000, .inl f_154))] := hD
      refine lv_iinc (v := 5) (lv' := [(7, .int 5), (10, .int Sv), (8, .long m_1), (0, .ref h1), (1, .long m_1), (3, .long m_2), (5, .long m_3)]) hx hb dX11_feed_114 hl (k := 2) rfl (by decide +kernel) (by decide) rfl (fun ls hl => ?_)
      refine lv_goto (tgt := 8) hx hb dX11_feed_117 (by decide) ?_
      exact hc5 (n + 1) f_154 _ _ _ (f8_up 4 hn eSv (okb_eq c153)) (by omega) (hP.sub [0, 1] rfl) (hD.sub [0, 1] (by decide) rfl) hS (lv_sub hl [0, 3, 4, 5, 6] rfl)
    · refine lv_iload hx hb dX11_feed_79 (lv_at hl 0 rfl) ?_
      refine lv_bipush (v := 32) hx hb dX11_feed_81 (by decide) ?_
      refine lv_icmp_lt (tgt := 114) hx hb dX11_feed_83 (by decide) (fun c155 => ?_) (fun c155 => ?_)
      · refine lv_iinc (v := 5) (lv' := [(7, .int 5), (10, .int Sv), (8, .long m_1), (0, .ref h1), (1, .long m_1), (3, .long m_2), (5, .long m_3)]) hx hb dX11_feed_114 hl (k := 2) rfl (by decide +kernel) (by decide) rfl (fun ls hl => ?_)
        refine lv_goto (tgt := 8) hx hb dX11_feed_117 (by decide) ?_
        exact hc5 (n) f _ _ _ (f8_st 4 hn eSv (okb_lo c153 c155)) (by omega) (hP.sub [0, 1] rfl) (hD.sub [0, 1] (by decide) rfl) hS (lv_sub hl [0, 3, 4, 5, 6] rfl)
      · refine lv_iload hx hb dX11_feed_86 (lv_at hl 0 rfl) ?_
        refine lv_bipush (v := 126) hx hb dX11_feed_88 (by decide) ?_
        refine lv_icmp_gt (tgt := 114) hx hb dX11_feed_90 (by decide) (fun c156 => ?_) (fun c156 => ?_)
        · refine lv_iinc (v := 5) (lv' := [(7, .int 5), (10, .int Sv), (8, .long m_1), (0, .ref h1), (1, .long m_1), (3, .long m_2), (5, .long m_3)]) hx hb dX11_feed_114 hl (k := 2) rfl (by decide +kernel) (by decide) rfl (fun ls hl => ?_)
          refine lv_goto (tgt := 8) hx hb dX11_feed_117 (by decide) ?_
          exact hc5 (n) f _ _ _ (f8_st 4 hn eSv (okb_hi c153 c156)) (by omega) (hP.sub [0, 1] rfl) (hD.sub [0, 1] (by decide) rfl) hS (lv_sub hl [0, 3, 4, 5, 6] rfl)
        · refine lv_aload_n hx hb dX11_feed_93 rfl (lv_at hl 3 rfl) ?_
          refine xget F hP 0 rfl rfl inX11 2 (by decide) tb1184 rfl dX11_feed_94 ?_
          refine lv_aload_n hx hb dX11_feed_97 rfl (lv_at hl 3 rfl) ?_
          refine xget F hP 0 rfl rfl inX11 1 (by decide) tb1183 rfl dX11_feed_98 ?_
          refine lv_iload hx hb dX11_feed_101 (lv_at hl 0 rfl) ?_
          refine xistE F hP hD hS 1 rfl n (nI_pos (by omega)) (nI_clamp (by omega)) (by omega) dX11_feed_103 (fun f_157 H locs hP hD hS => ?_)
          have hP : va_P g vwCl [(h1, .inr (11, [.int 0, .int (nI n), .ref h2, x3, x4, x5, x6, x7, x8, x9, x10, x11, x12, x13, x14, x15, x16, x17, x18, x19, x20, x21, x22, x23, x24, x25, x26, x27, x28, x29, x30, x31, x32, x33, x34, x35, x36, x37, x38, x39, x40, x41, x42, x43, x44, x45, x46, x47, x48, x49, x50, x51, x52, x53, x54, x55, x56, x57, x58, x59, x60, x61, x62, x63, x64, x65, x66, x67, x68, x69, x70, x71, x72, x73])), (h2, .inl (aC 0, 1000, .inl f_157))] H := hP
          have hD : va_D A [(h1, .inr (11, [.int 0, .int (nI n), .ref h2, x3, x4, x5, x6, x7, x8, x9, x10, x11, x12, x13, x14, x15, x16, x17, x18, x19, x20, x21, x22, x23, x24, x25, x26, x27, x28, x29, x30, x31, x32, x33, x34, x35, x36, x37, x38, x39, x40, x41, x42, x43, x44, x45, x46, x47, x48, x49, x50, x51, x52, x53, x54, x55, x56, x57, x58, x59, x60, x61, x62, x63, x64, x65, x66, x67, x68, x69, x70, x71, x72, x73])), (h2, .inl (aC 0, 1000, .inl f_157))] := hD
          refine lv_aload_n hx hb dX11_feed_104 rfl (lv_at hl 3 rfl) ?_
          refine lv_dup hx hb dX11_feed_105 rfl ?_
          refine xget F hP 0 rfl rfl inX11 1 (by decide) tb1183 rfl dX11_feed_106 ?_
          refine lv_iconst (v := 1) hx hb dX11_feed_109 (by decide) ?_
          refine lv_iadd hx hb dX11_feed_110 ?_
          refine relit (v := (nI (n + 1))) (nadd (a := n) (b := 1) (by omega)) ?_
          refine xput F hP hD hS 0 rfl rfl inX11 tyX11_ok nmX11 1 (by decide) tb1183 rfl rfl rfl (Nat.le_of_ble_eq_true rfl) dX11_feed_111 (fun H locs hP hD hS => ?_)
          have hP : va_P g vwCl [(h1, .inr (11, [.int 0, .int (nI (n + 1)), .ref h2, x3, x4, x5, x6, x7, x8, x9, x10, x11, x12, x13, x14, x15, x16, x17, x18, x19, x20, x21, x22, x23, x24, x25, x26, x27, x28, x29, x30, x31, x32, x33, x34, x35, x36, x37, x38, x39, x40, x41, x42, x43, x44, x45, x46, x47, x48, x49, x50, x51, x52, x53, x54, x55, x56, x57, x58, x59, x60, x61, x62, x63, x64, x65, x66, x67, x68, x69, x70, x71, x72, x73])), (h2, .inl (aC 0, 1000, .inl f_157))] H := hP
          have hD : va_D A [(h1, .inr (11, [.int 0, .int (nI (n + 1)), .ref h2, x3, x4, x5, x6, x7, x8, x9, x10, x11, x12, x13, x14, x15, x16, x17, x18, x19, x20, x21, x22, x23, x24, x25, x26, x27, x28, x29, x30, x31, x32, x33, x34, x35, x36, x37, x38, x39, x40, x41, x42, x43, x44, x45, x46, x47, x48, x49, x50, x51, x52, x53, x54, x55, x56, x57, x58, x59, x60, x61, x62, x63, x64, x65, x66, x67, x68, x69, x70, x71, x72, x73])), (h2, .inl (aC 0, 1000, .inl f_157))] := hD
          refine lv_iinc (v := 5) (lv' := [(7, .int 5), (10, .int Sv), (8, .long m_1), (0, .ref h1), (1, .long m_1), (3, .long m_2), (5, .long m_3)]) hx hb dX11_feed_114 hl (k := 2) rfl (by decide +kernel) (by decide) rfl (fun ls hl => ?_)
          refine lv_goto (tgt := 8) hx hb dX11_feed_117 (by decide) ?_
          exact hc5 (n + 1) f_157 _ _ _ (f8_up 4 hn eSv (okb_in c155 c156)) (by omega) (hP.sub [0, 1] rfl) (hD.sub [0, 1] (by decide) rfl) hS (lv_sub hl [0, 3, 4, 5, 6] rfl)
  have hc3 : ∀ (n : Nat) (f : Nat → Int32) (H : Heap) (locs : List Loc) (ls : Array Slot), n = 0 + f8 m_1 3 → n ≤ 3 → va_P g vwCl [(h1, .inr (11, [.int 0, .int (nI n), .ref h2, x3, x4, x5, x6, x7, x8, x9, x10, x11, x12, x13, x14, x15, x16, x17, x18, x19, x20, x21, x22, x23, x24, x25, x26, x27, x28, x29, x30, x31, x32, x33, x34, x35, x36, x37, x38, x39, x40, x41, x42, x43, x44, x45, x46, x47, x48, x49, x50, x51, x52, x53, x54, x55, x56, x57, x58, x59, x60, x61, x62, x63, x64, x65, x66, x67, x68, x69, x70, x71, x72, x73])), (h2, .inl (aC 0, 1000, .inl f))] H → va_D A [(h1, .inr (11, [.int 0, .int (nI n), .ref h2, x3, x4, x5, x6, x7, x8, x9, x10, x11, x12, x13, x14, x15, x16, x17, x18, x19, x20, x21, x22, x23, x24, x25, x26, x27, x28, x29, x30, x31, x32, x33, x34, x35, x36, x37, x38, x39, x40, x41, x42, x43, x44, x45, x46, x47, x48, x49, x50, x51, x52, x53, x54, x55, x56, x57, x58, x59, x60, x61, x62, x63, x64, x65, x66, x67, x68, x69, x70, x71, x72, x73])), (h2, .inl (aC 0, 1000, .inl f))] → va_S A s.heap H locs → lv_has ls 11 [(7, .int 3), (0, .ref h1), (1, .long m_1), (3, .long m_2), (5, .long m_3)] → W p l e (rmL 1 0 0) s m [.ref h1, .long m_1, .long m_2, .long m_3].toArray below meth c H locs 0 0 (MQ below (QI g (fun (r : Int32) (_ : Unit) => r = (nI (((0 + f8 m_1 8) + f8 m_2 8) + f8 m_3 8))) (fun (_ : Unit) => []) A) [.ref h1, .long m_1, .long m_2, .long m_3].toArray s 0 0 A) (F0 m 8 ls []) := by
    intro n f H locs ls hn hb_ hP hD hS hl
    refine lv_iload hx hb dX11_feed_8 (lv_at hl 0 rfl) ?_
    refine lv_bipush (v := 24) hx hb dX11_feed_10 (by decide) ?_
    refine lv_icmp_ge (tgt := 120) hx hb dX11_feed_12 (by decide) (fun c_ => absurd c_ (by decide +kernel)) (fun _ => ?_)
    refine lv_iload hx hb dX11_feed_15 (lv_at hl 0 rfl) ?_
    refine lv_bipush (v := 8) hx hb dX11_feed_17 (by decide) ?_
    refine lv_icmp_ge (tgt := 26) hx hb dX11_feed_19 (by decide) (fun c_ => absurd c_ (by decide +kernel)) (fun _ => ?_)
    refine lv_lload_n hx hb dX11_feed_22 rfl (lv_at hl 2 rfl) ?_
    refine lv_goto (tgt := 39) hx hb dX11_feed_23 (by decide) ?_
    refine lv_lstore (lv' := [(8, .long m_1), (7, .int 3), (0, .ref h1), (1, .long m_1), (3, .long m_2), (5, .long m_3)]) hx hb dX11_feed_39 hl (by decide) rfl (fun ls hl => ?_)
    refine lv_lload hx hb dX11_feed_41 (lv_at hl 0 rfl) ?_
    refine lv_bipush (v := 56) hx hb dX11_feed_43 (by decide) ?_
    refine lv_bipush (v := 8) hx hb dX11_feed_45 (by decide) ?_
    refine lv_iload hx hb dX11_feed_47 (lv_at hl 1 rfl) ?_
    refine lv_bipush (v := 7) hx hb dX11_feed_49 (by decide) ?_
    refine lv_iand hx hb dX11_feed_51 ?_
    refine relit (v := 3) (by decide +kernel) ?_
    refine lv_imul hx hb dX11_feed_52 ?_
    refine relit (v := 24) (by decide +kernel) ?_
    refine lv_isub hx hb dX11_feed_53 ?_
    refine relit (v := 32) (by decide +kernel) ?_
    refine lv_lushr (v := ((m_1.toUInt64 >>> ((32 : Int32).toInt64.toUInt64 &&& Int64.toUInt64 63)).toInt64)) hx hb dX11_feed_54 rfl ?_
    refine lv_ldc2 (v := 255) hx hb hown (hts _ tb1414) dX11_feed_55 ?_
    refine lv_land hx hb dX11_feed_58 ?_
    refine lv_l2i (v := ((((m_1.toUInt64 >>> ((32 : Int32).toInt64.toUInt64 &&& Int64.toUInt64 63)).toInt64) &&& 255).toInt32)) hx hb dX11_feed_59 rfl ?_
    obtain ⟨Sv, eSv⟩ : ∃ z : Int32, z = ((((m_1.toUInt64 >>> ((32 : Int32).toInt64.toUInt64 &&& Int64.toUInt64 63)).toInt64) &&& 255).toInt32) := ⟨_, rfl⟩
    refine relit (v := Sv) eSv.symm ?_
    refine lv_istore (lv' := [(10, .int Sv), (8, .long m_1), (7, .int 3), (0, .ref h1), (1, .long m_1), (3, .long m_2), (5, .long m_3)]) hx hb dX11_feed_60 hl (by decide) rfl (fun ls hl => ?_)
    refine lv_aload_n hx hb dX11_feed_62 rfl (lv_at hl 3 rfl) ?_
    refine xget F hP 0 rfl rfl inX11 1 (by decide) tb1183 rfl dX11_feed_63 ?_
    refine lv_sipush (v := 1000) hx hb dX11_feed_66 (by decide) ?_
    refine lv_icmp_ge (tgt := 114) hx hb dX11_feed_69 (by decide) (fun c_ => absurd c_ (show ¬ (nI 1000 ≤ nI n) by rw [nI_leI (by omega) (by omega)]; omega)) (fun _ => ?_)
    refine lv_iload hx hb dX11_feed_72 (lv_at hl 0 rfl) ?_
    refine lv_bipush (v := 10) hx hb dX11_feed_74 (by decide) ?_
    refine lv_icmp_eq (tgt := 93) hx hb dX11_feed_76 (by decide) (fun c160 => ?_) (fun c160 => ?_)
    · refine lv_aload_n hx hb dX11_feed_93 rfl (lv_at hl 3 rfl) ?_
      refine xget F hP 0 rfl rfl inX11 2 (by decide) tb1184 rfl dX11_feed_94 ?_
      refine lv_aload_n hx hb dX11_feed_97 rfl (lv_at hl 3 rfl) ?_
      refine xget F hP 0 rfl rfl inX11 1 (by decide) tb1183 rfl dX11_feed_98 ?_
      refine lv_iload hx hb dX11_feed_101 (lv_at hl 0 rfl) ?_
      refine xistE F hP hD hS 1 rfl n (nI_pos (by omega)) (nI_clamp (by omega)) (by omega) dX11_feed_103 (fun f_161 H locs hP hD hS => ?_)
      have hP : va_P g vwCl [(h1, .inr (11, [.int 0, .int (nI n), .ref h2, x3, x4, x5, x6, x7, x8, x9, x10, x11, x12, x13, x14, x15, x16, x17, x18, x19, x20, x21, x22, x23, x24, x25, x26, x27, x28, x29, x30, x31, x32, x33, x34, x35, x36, x37, x38, x39, x40, x41, x42, x43, x44, x45, x46, x47, x48, x49, x50, x51, x52, x53, x54, x55, x56, x57, x58, x59, x60, x61, x62, x63, x64, x65, x66, x67, x68, x69, x70, x71, x72, x73])), (h2, .inl (aC 0, 1000, .inl f_161))] H := hP
      have hD : va_D A [(h1, .inr (11, [.int 0, .int (nI n), .ref h2, x3, x4, x5, x6, x7, x8, x9, x10, x11, x12, x13, x14, x15, x16, x17, x18, x19, x20, x21, x22, x23, x24, x25, x26, x27, x28, x29, x30, x31, x32, x33, x34, x35, x36, x37, x38, x39, x40, x41, x42, x43, x44, x45, x46, x47, x48, x49, x50, x51, x52, x53, x54, x55, x56, x57, x58, x59, x60, x61, x62, x63, x64, x65, x66, x67, x68, x69, x70, x71, x72, x73])), (h2, .inl (aC 0, 1000, .inl f_161))] := hD
      refine lv_aload_n hx hb dX11_feed_104 rfl (lv_at hl 3 rfl) ?_
      refine lv_dup hx hb dX11_feed_105 rfl ?_
      refine xget F hP 0 rfl rfl inX11 1 (by decide) tb1183 rfl dX11_feed_106 ?_
      refine lv_iconst (v := 1) hx hb dX11_feed_109 (by decide) ?_
      refine lv_iadd hx hb dX11_feed_110 ?_
      refine relit (v := (nI (n + 1))) (nadd (a := n) (b := 1) (by omega)) ?_
      refine xput F hP hD hS 0 rfl rfl inX11 tyX11_ok nmX11 1 (by decide) tb1183 rfl rfl rfl (Nat.le_of_ble_eq_true rfl) dX11_feed_111 (fun H locs hP hD hS => ?_)
      have hP : va_P g vwCl [(h1, .inr (11, [.int 0, .int (nI (n + 1)), .ref h2, x3, x4, x5, x6, x7, x8, x9, x10, x11, x12, x13, x14, x15, x16, x17, x18, x19, x20, x21, x22, x23, x24, x25, x26, x27, x28, x29, x30, x31, x32, x33, x34, x35, x36, x37, x38, x39, x40, x41, x42, x43, x44, x45, x46, x47, x48, x49, x50, x51, x52, x53, x54, x55, x56, x57, x58, x59, x60, x61, x62, x63, x64, x65, x66, x67, x68, x69, x70, x71, x72, x73])), (h2, .inl (aC 0, 1000, .inl f_161))] H := hP
      have hD : va_D A [(h1, .inr (11, [.int 0, .int (nI (n + 1)), .ref h2, x3, x4, x5, x6, x7, x8, x9, x10, x11, x12, x13, x14, x15, x16, x17, x18, x19, x20, x21, x22, x23, x24, x25, x26, x27, x28, x29, x30, x31, x32, x33, x34, x35, x36, x37, x38, x39, x40, x41, x42, x43, x44, x45, x46, x47, x48, x49, x50, x51, x52, x53, x54, x55, x56, x57, x58, x59, x60, x61, x62, x63, x64, x65, x66, x67, x68, x69, x70, x71, x72, x73])), (h2, .inl (aC 0, 1000, .inl f_161))] := hD
      refine lv_iinc (v := 4) (lv' := [(7, .int 4), (10, .int Sv), (8, .long m_1), (0, .ref h1), (1, .long m_1), (3, .long m_2), (5, .long m_3)]) hx hb dX11_feed_114 hl (k := 2) rfl (by decide +kernel) (by decide) rfl (fun ls hl => ?_)
      refine lv_goto (tgt := 8) hx hb dX11_feed_117 (by decide) ?_
      exact hc4 (n + 1) f_161 _ _ _ (f8_up 3 hn eSv (okb_eq c160)) (by omega) (hP.sub [0, 1] rfl) (hD.sub [0, 1] (by decide) rfl) hS (lv_sub hl [0, 3, 4, 5, 6] rfl)
    · refine lv_iload hx hb dX11_feed_79 (lv_at hl 0 rfl) ?_
      refine lv_bipush (v := 32) hx hb dX11_feed_81 (by decide) ?_
      refine lv_icmp_lt (tgt := 114) hx hb dX11_feed_83 (by decide) (fun c162 => ?_) (fun c162 => ?_)
      · refine lv_iinc (v := 4) (lv' := [(7, .int 4), (10, .int Sv), (8, .long m_1), (0, .ref h1), (1, .long m_1), (3, .long m_2), (5, .long m_3)]) hx hb dX11_feed_114 hl (k := 2) rfl (by decide +kernel) (by decide) rfl (fun ls hl => ?_)
        refine lv_goto (tgt := 8) hx hb dX11_feed_117 (by decide) ?_
        exact hc4 (n) f _ _ _ (f8_st 3 hn eSv (okb_lo c160 c162)) (by omega) (hP.sub [0, 1] rfl) (hD.sub [0, 1] (by decide) rfl) hS (lv_sub hl [0, 3, 4, 5, 6] rfl)
      · refine lv_iload hx hb dX11_feed_86 (lv_at hl 0 rfl) ?_
        refine lv_bipush (v := 126) hx hb dX11_feed_88 (by decide) ?_
        refine lv_icmp_gt (tgt := 114) hx hb dX11_feed_90 (by decide) (fun c163 => ?_) (fun c163 => ?_)
        · refine lv_iinc (v := 4) (lv' := [(7, .int 4), (10, .int Sv), (8, .long m_1), (0, .ref h1), (1, .long m_1), (3, .long m_2), (5, .long m_3)]) hx hb dX11_feed_114 hl (k := 2) rfl (by decide +kernel) (by decide) rfl (fun ls hl => ?_)
          refine lv_goto (tgt := 8) hx hb dX11_feed_117 (by decide) ?_
          exact hc4 (n) f _ _ _ (f8_st 3 hn eSv (okb_hi c160 c163)) (by omega) (hP.sub [0, 1] rfl) (hD.sub [0, 1] (by decide) rfl) hS (lv_sub hl [0, 3, 4, 5, 6] rfl)
        · refine lv_aload_n hx hb dX11_feed_93 rfl (lv_at hl 3 rfl) ?_
          refine xget F hP 0 rfl rfl inX11 2 (by decide) tb1184 rfl dX11_feed_94 ?_
          refine lv_aload_n hx hb dX11_feed_97 rfl (lv_at hl 3 rfl) ?_
          refine xget F hP 0 rfl rfl inX11 1 (by decide) tb1183 rfl dX11_feed_98 ?_
          refine lv_iload hx hb dX11_feed_101 (lv_at hl 0 rfl) ?_
          refine xistE F hP hD hS 1 rfl n (nI_pos (by omega)) (nI_clamp (by omega)) (by omega) dX11_feed_103 (fun f_164 H locs hP hD hS => ?_)
          have hP : va_P g vwCl [(h1, .inr (11, [.int 0, .int (nI n), .ref h2, x3, x4, x5, x6, x7, x8, x9, x10, x11, x12, x13, x14, x15, x16, x17, x18, x19, x20, x21, x22, x23, x24, x25, x26, x27, x28, x29, x30, x31, x32, x33, x34, x35, x36, x37, x38, x39, x40, x41, x42, x43, x44, x45, x46, x47, x48, x49, x50, x51, x52, x53, x54, x55, x56, x57, x58, x59, x60, x61, x62, x63, x64, x65, x66, x67, x68, x69, x70, x71, x72, x73])), (h2, .inl (aC 0, 1000, .inl f_164))] H := hP
          have hD : va_D A [(h1, .inr (11, [.int 0, .int (nI n), .ref h2, x3, x4, x5, x6, x7, x8, x9, x10, x11, x12, x13, x14, x15, x16, x17, x18, x19, x20, x21, x22, x23, x24, x25, x26, x27, x28, x29, x30, x31, x32, x33, x34, x35, x36, x37, x38, x39, x40, x41, x42, x43, x44, x45, x46, x47, x48, x49, x50, x51, x52, x53, x54, x55, x56, x57, x58, x59, x60, x61, x62, x63, x64, x65, x66, x67, x68, x69, x70, x71, x72, x73])), (h2, .inl (aC 0, 1000, .inl f_164))] := hD
          refine lv_aload_n hx hb dX11_feed_104 rfl (lv_at hl 3 rfl) ?_
          refine lv_dup hx hb dX11_feed_105 rfl ?_
          refine xget F hP 0 rfl rfl inX11 1 (by decide) tb1183 rfl dX11_feed_106 ?_
          refine lv_iconst (v := 1) hx hb dX11_feed_109 (by decide) ?_
          refine lv_iadd hx hb dX11_feed_110 ?_
          refine relit (v := (nI (n + 1))) (nadd (a := n) (b := 1) (by omega)) ?_
          refine xput F hP hD hS 0 rfl rfl inX11 tyX11_ok nmX11 1 (by decide) tb1183 rfl rfl rfl (Nat.le_of_ble_eq_true rfl) dX11_feed_111 (fun H locs hP hD hS => ?_)
          have hP : va_P g vwCl [(h1, .inr (11, [.int 0, .int (nI (n + 1)), .ref h2, x3, x4, x5, x6, x7, x8, x9, x10, x11, x12, x13, x14, x15, x16, x17, x18, x19, x20, x21, x22, x23, x24, x25, x26, x27, x28, x29, x30, x31, x32, x33, x34, x35, x36, x37, x38, x39, x40, x41, x42, x43, x44, x45, x46, x47, x48, x49, x50, x51, x52, x53, x54, x55, x56, x57, x58, x59, x60, x61, x62, x63, x64, x65, x66, x67, x68, x69, x70, x71, x72, x73])), (h2, .inl (aC 0, 1000, .inl f_164))] H := hP
          have hD : va_D A [(h1, .inr (11, [.int 0, .int (nI (n + 1)), .ref h2, x3, x4, x5, x6, x7, x8, x9, x10, x11, x12, x13, x14, x15, x16, x17, x18, x19, x20, x21, x22, x23, x24, x25, x26, x27, x28, x29, x30, x31, x32, x33, x34, x35, x36, x37, x38, x39, x40, x41, x42, x43, x44, x45, x46, x47, x48, x49, x50, x51, x52, x53, x54, x55, x56, x57, x58, x59, x60, x61, x62, x63, x64, x65, x66, x67, x68, x69, x70, x71, x72, x73])), (h2, .inl (aC 0, 1000, .inl f_164))] := hD
          refine lv_iinc (v := 4) (lv' := [(7, .int 4), (10, .int Sv), (8, .long m_1), (0, .ref h1), (1, .long m_1), (3, .long m_2), (5, .long m_3)]) hx hb dX11_feed_114 hl (k := 2) rfl (by decide +kernel) (by decide) rfl (fun ls hl => ?_)
          refine lv_goto (tgt := 8) hx hb dX11_feed_117 (by decide) ?_
          exact hc4 (n + 1) f_164 _ _ _ (f8_up 3 hn eSv (okb_in c162 c163)) (by omega) (hP.sub [0, 1] rfl) (hD.sub [0, 1] (by decide) rfl) hS (lv_sub hl [0, 3, 4, 5, 6] rfl)
  have hc2 : ∀ (n : Nat) (f : Nat → Int32) (H : Heap) (locs : List Loc) (ls : Array Slot), n = 0 + f8 m_1 2 → n ≤ 2 → va_P g vwCl [(h1, .inr (11, [.int 0, .int (nI n), .ref h2, x3, x4, x5, x6, x7, x8, x9, x10, x11, x12, x13, x14, x15, x16, x17, x18, x19, x20, x21, x22, x23, x24, x25, x26, x27, x28, x29, x30, x31, x32, x33, x34, x35, x36, x37, x38, x39, x40, x41, x42, x43, x44, x45, x46, x47, x48, x49, x50, x51, x52, x53, x54, x55, x56, x57, x58, x59, x60, x61, x62, x63, x64, x65, x66, x67, x68, x69, x70, x71, x72, x73])), (h2, .inl (aC 0, 1000, .inl f))] H → va_D A [(h1, .inr (11, [.int 0, .int (nI n), .ref h2, x3, x4, x5, x6, x7, x8, x9, x10, x11, x12, x13, x14, x15, x16, x17, x18, x19, x20, x21, x22, x23, x24, x25, x26, x27, x28, x29, x30, x31, x32, x33, x34, x35, x36, x37, x38, x39, x40, x41, x42, x43, x44, x45, x46, x47, x48, x49, x50, x51, x52, x53, x54, x55, x56, x57, x58, x59, x60, x61, x62, x63, x64, x65, x66, x67, x68, x69, x70, x71, x72, x73])), (h2, .inl (aC 0, 1000, .inl f))] → va_S A s.heap H locs → lv_has ls 11 [(7, .int 2), (0, .ref h1), (1, .long m_1), (3, .long m_2), (5, .long m_3)] → W p l e (rmL 1 0 0) s m [.ref h1, .long m_1, .long m_2, .long m_3].toArray below meth c H locs 0 0 (MQ below (QI g (fun (r : Int32) (_ : Unit) => r = (nI (((0 + f8 m_1 8) + f8 m_2 8) + f8 m_3 8))) (fun (_ : Unit) => []) A) [.ref h1, .long m_1, .long m_2, .long m_3].toArray s 0 0 A) (F0 m 8 ls []) := by
    intro n f H locs ls hn hb_ hP hD hS hl
    refine lv_iload hx hb dX11_feed_8 (lv_at hl 0 rfl) ?_
    refine lv_bipush (v := 24) hx hb dX11_feed_10 (by decide) ?_
    refine lv_icmp_ge (tgt := 120) hx hb dX11_feed_12 (by decide) (fun c_ => absurd c_ (by decide +kernel)) (fun _ => ?_)
    refine lv_iload hx hb dX11_feed_15 (lv_at hl 0 rfl) ?_
    refine lv_bipush (v := 8) hx hb dX11_feed_17 (by decide) ?_
    refine lv_icmp_ge (tgt := 26) hx hb dX11_feed_19 (by decide) (fun c_ => absurd c_ (by decide +kernel)) (fun _ => ?_)
    refine lv_lload_n hx hb dX11_feed_22 rfl (lv_at hl 2 rfl) ?_
    refine lv_goto (tgt := 39) hx hb dX11_feed_23 (by decide) ?_
    refine lv_lstore (lv' := [(8, .long m_1), (7, .int 2), (0, .ref h1), (1, .long m_1), (3, .long m_2), (5, .long m_3)]) hx hb dX11_feed_39 hl (by decide) rfl (fun ls hl => ?_)
    refine lv_lload hx hb dX11_feed_41 (lv_at hl 0 rfl) ?_
    refine lv_bipush (v := 56) hx hb dX11_feed_43 (by decide) ?_
    refine lv_bipush (v := 8) hx hb dX11_feed_45 (by decide) ?_
    refine lv_iload hx hb dX11_feed_47 (lv_at hl 1 rfl) ?_
    refine lv_bipush (v := 7) hx hb dX11_feed_49 (by decide) ?_
    refine lv_iand hx hb dX11_feed_51 ?_
    refine relit (v := 2) (by decide +kernel) ?_
    refine lv_imul hx hb dX11_feed_52 ?_
    refine relit (v := 16) (by decide +kernel) ?_
    refine lv_isub hx hb dX11_feed_53 ?_
    refine relit (v := 40) (by decide +kernel) ?_
    refine lv_lushr (v := ((m_1.toUInt64 >>> ((40 : Int32).toInt64.toUInt64 &&& Int64.toUInt64 63)).toInt64)) hx hb dX11_feed_54 rfl ?_
    refine lv_ldc2 (v := 255) hx hb hown (hts _ tb1414) dX11_feed_55 ?_
    refine lv_land hx hb dX11_feed_58 ?_
    refine lv_l2i (v := ((((m_1.toUInt64 >>> ((40 : Int32).toInt64.toUInt64 &&& Int64.toUInt64 63)).toInt64) &&& 255).toInt32)) hx hb dX11_feed_59 rfl ?_
    obtain ⟨Sv, eSv⟩ : ∃ z : Int32, z = ((((m_1.toUInt64 >>> ((40 : Int32).toInt64.toUInt64 &&& Int64.toUInt64 63)).toInt64) &&& 255).toInt32) := ⟨_, rfl⟩
    refine relit (v := Sv) eSv.symm ?_
    refine lv_istore (lv' := [(10, .int Sv), (8, .long m_1), (7, .int 2), (0, .ref h1), (1, .long m_1), (3, .long m_2), (5, .long m_3)]) hx hb dX11_feed_60 hl (by decide) rfl (fun ls hl => ?_)
    refine lv_aload_n hx hb dX11_feed_62 rfl (lv_at hl 3 rfl) ?_
    refine xget F hP 0 rfl rfl inX11 1 (by decide) tb1183 rfl dX11_feed_63 ?_
    refine lv_sipush (v := 1000) hx hb dX11_feed_66 (by decide) ?_
    refine lv_icmp_ge (tgt := 114) hx hb dX11_feed_69 (by decide) (fun c_ => absurd c_ (show ¬ (nI 1000 ≤ nI n) by rw [nI_leI (by omega) (by omega)]; omega)) (fun _ => ?_)
    refine lv_iload hx hb dX11_feed_72 (lv_at hl 0 rfl) ?_
    refine lv_bipush (v := 10) hx hb dX11_feed_74 (by decide) ?_
    refine lv_icmp_eq (tgt := 93) hx hb dX11_feed_76 (by decide) (fun c167 => ?_) (fun c167 => ?_)
    · refine lv_aload_n hx hb dX11_feed_93 rfl (lv_at hl 3 rfl) ?_
      refine xget F hP 0 rfl rfl inX11 2 (by decide) tb1184 rfl dX11_feed_94 ?_
      refine lv_aload_n hx hb dX11_feed_97 rfl (lv_at hl 3 rfl) ?_
      refine xget F hP 0 rfl rfl inX11 1 (by decide) tb1183 rfl dX11_feed_98 ?_
      refine lv_iload hx hb dX11_feed_101 (lv_at hl 0 rfl) ?_
      refine xistE F hP hD hS 1 rfl n (nI_pos (by omega)) (nI_clamp (by omega)) (by omega) dX11_feed_103 (fun f_168 H locs hP hD hS => ?_)
      have hP : va_P g vwCl [(h1, .inr (11, [.int 0, .int (nI n), .ref h2, x3, x4, x5, x6, x7, x8, x9, x10, x11, x12, x13, x14, x15, x16, x17, x18, x19, x20, x21, x22, x23, x24, x25, x26, x27, x28, x29, x30, x31, x32, x33, x34, x35, x36, x37, x38, x39, x40, x41, x42, x43, x44, x45, x46, x47, x48, x49, x50, x51, x52, x53, x54, x55, x56, x57, x58, x59, x60, x61, x62, x63, x64, x65, x66, x67, x68, x69, x70, x71, x72, x73])), (h2, .inl (aC 0, 1000, .inl f_168))] H := hP
      have hD : va_D A [(h1, .inr (11, [.int 0, .int (nI n), .ref h2, x3, x4, x5, x6, x7, x8, x9, x10, x11, x12, x13, x14, x15, x16, x17, x18, x19, x20, x21, x22, x23, x24, x25, x26, x27, x28, x29, x30, x31, x32, x33, x34, x35, x36, x37, x38, x39, x40, x41, x42, x43, x44, x45, x46, x47, x48, x49, x50, x51, x52, x53, x54, x55, x56, x57, x58, x59, x60, x61, x62, x63, x64, x65, x66, x67, x68, x69, x70, x71, x72, x73])), (h2, .inl (aC 0, 1000, .inl f_168))] := hD
      refine lv_aload_n hx hb dX11_feed_104 rfl (lv_at hl 3 rfl) ?_
      refine lv_dup hx hb dX11_feed_105 rfl ?_
      refine xget F hP 0 rfl rfl inX11 1 (by decide) tb1183 rfl dX11_feed_106 ?_
      refine lv_iconst (v := 1) hx hb dX11_feed_109 (by decide) ?_
      refine lv_iadd hx hb dX11_feed_110 ?_
      refine relit (v := (nI (n + 1))) (nadd (a := n) (b := 1) (by omega)) ?_
      refine xput F hP hD hS 0 rfl rfl inX11 tyX11_ok nmX11 1 (by decide) tb1183 rfl rfl rfl (Nat.le_of_ble_eq_true rfl) dX11_feed_111 (fun H locs hP hD hS => ?_)
      have hP : va_P g vwCl [(h1, .inr (11, [.int 0, .int (nI (n + 1)), .ref h2, x3, x4, x5, x6, x7, x8, x9, x10, x11, x12, x13, x14, x15, x16, x17, x18, x19, x20, x21, x22, x23, x24, x25, x26, x27, x28, x29, x30, x31, x32, x33, x34, x35, x36, x37, x38, x39, x40, x41, x42, x43, x44, x45, x46, x47, x48, x49, x50, x51, x52, x53, x54, x55, x56, x57, x58, x59, x60, x61, x62, x63, x64, x65, x66, x67, x68, x69, x70, x71, x72, x73])), (h2, .inl (aC 0, 1000, .inl f_168))] H := hP
      have hD : va_D A [(h1, .inr (11, [.int 0, .int (nI (n + 1)), .ref h2, x3, x4, x5, x6, x7, x8, x9, x10, x11, x12, x13, x14, x15, x16, x17, x18, x19, x20, x21, x22, x23, x24, x25, x26, x27, x28, x29, x30, x31, x32, x33, x34, x35, x36, x37, x38, x39, x40, x41, x42, x43, x44, x45, x46, x47, x48, x49, x50, x51, x52, x53, x54, x55, x56, x57, x58, x59, x60, x61, x62, x63, x64, x65, x66, x67, x68, x69, x70, x71, x72, x73])), (h2, .inl (aC 0, 1000, .inl f_168))] := hD
      refine lv_iinc (v := 3) (lv' := [(7, .int 3), (10, .int Sv), (8, .long m_1), (0, .ref h1), (1, .long m_1), (3, .long m_2), (5, .long m_3)]) hx hb dX11_feed_114 hl (k := 2) rfl (by decide +kernel) (by decide) rfl (fun ls hl => ?_)
      refine lv_goto (tgt := 8) hx hb dX11_feed_117 (by decide) ?_
      exact hc3 (n + 1) f_168 _ _ _ (f8_up 2 hn eSv (okb_eq c167)) (by omega) (hP.sub [0, 1] rfl) (hD.sub [0, 1] (by decide) rfl) hS (lv_sub hl [0, 3, 4, 5, 6] rfl)
    · refine lv_iload hx hb dX11_feed_79 (lv_at hl 0 rfl) ?_
      refine lv_bipush (v := 32) hx hb dX11_feed_81 (by decide) ?_
      refine lv_icmp_lt (tgt := 114) hx hb dX11_feed_83 (by decide) (fun c169 => ?_) (fun c169 => ?_)
      · refine lv_iinc (v := 3) (lv' := [(7, .int 3), (10, .int Sv), (8, .long m_1), (0, .ref h1), (1, .long m_1), (3, .long m_2), (5, .long m_3)]) hx hb dX11_feed_114 hl (k := 2) rfl (by decide +kernel) (by decide) rfl (fun ls hl => ?_)
        refine lv_goto (tgt := 8) hx hb dX11_feed_117 (by decide) ?_
        exact hc3 (n) f _ _ _ (f8_st 2 hn eSv (okb_lo c167 c169)) (by omega) (hP.sub [0, 1] rfl) (hD.sub [0, 1] (by decide) rfl) hS (lv_sub hl [0, 3, 4, 5, 6] rfl)
      · refine lv_iload hx hb dX11_feed_86 (lv_at hl 0 rfl) ?_
        refine lv_bipush (v := 126) hx hb dX11_feed_88 (by decide) ?_
        refine lv_icmp_gt (tgt := 114) hx hb dX11_feed_90 (by decide) (fun c170 => ?_) (fun c170 => ?_)
        · refine lv_iinc (v := 3) (lv' := [(7, .int 3), (10, .int Sv), (8, .long m_1), (0, .ref h1), (1, .long m_1), (3, .long m_2), (5, .long m_3)]) hx hb dX11_feed_114 hl (k := 2) rfl (by decide +kernel) (by decide) rfl (fun ls hl => ?_)
          refine lv_goto (tgt := 8) hx hb dX11_feed_117 (by decide) ?_
          exact hc3 (n) f _ _ _ (f8_st 2 hn eSv (okb_hi c167 c170)) (by omega) (hP.sub [0, 1] rfl) (hD.sub [0, 1] (by decide) rfl) hS (lv_sub hl [0, 3, 4, 5, 6] rfl)
        · refine lv_aload_n hx hb dX11_feed_93 rfl (lv_at hl 3 rfl) ?_
          refine xget F hP 0 rfl rfl inX11 2 (by decide) tb1184 rfl dX11_feed_94 ?_
          refine lv_aload_n hx hb dX11_feed_97 rfl (lv_at hl 3 rfl) ?_
          refine xget F hP 0 rfl rfl inX11 1 (by decide) tb1183 rfl dX11_feed_98 ?_
          refine lv_iload hx hb dX11_feed_101 (lv_at hl 0 rfl) ?_
          refine xistE F hP hD hS 1 rfl n (nI_pos (by omega)) (nI_clamp (by omega)) (by omega) dX11_feed_103 (fun f_171 H locs hP hD hS => ?_)
          have hP : va_P g vwCl [(h1, .inr (11, [.int 0, .int (nI n), .ref h2, x3, x4, x5, x6, x7, x8, x9, x10, x11, x12, x13, x14, x15, x16, x17, x18, x19, x20, x21, x22, x23, x24, x25, x26, x27, x28, x29, x30, x31, x32, x33, x34, x35, x36, x37, x38, x39, x40, x41, x42, x43, x44, x45, x46, x47, x48, x49, x50, x51, x52, x53, x54, x55, x56, x57, x58, x59, x60, x61, x62, x63, x64, x65, x66, x67, x68, x69, x70, x71, x72, x73])), (h2, .inl (aC 0, 1000, .inl f_171))] H := hP
          have hD : va_D A [(h1, .inr (11, [.int 0, .int (nI n), .ref h2, x3, x4, x5, x6, x7, x8, x9, x10, x11, x12, x13, x14, x15, x16, x17, x18, x19, x20, x21, x22, x23, x24, x25, x26, x27, x28, x29, x30, x31, x32, x33, x34, x35, x36, x37, x38, x39, x40, x41, x42, x43, x44, x45, x46, x47, x48, x49, x50, x51, x52, x53, x54, x55, x56, x57, x58, x59, x60, x61, x62, x63, x64, x65, x66, x67, x68, x69, x70, x71, x72, x73])), (h2, .inl (aC 0, 1000, .inl f_171))] := hD
          refine lv_aload_n hx hb dX11_feed_104 rfl (lv_at hl 3 rfl) ?_
          refine lv_dup hx hb dX11_feed_105 rfl ?_
          refine xget F hP 0 rfl rfl inX11 1 (by decide) tb1183 rfl dX11_feed_106 ?_
          refine lv_iconst (v := 1) hx hb dX11_feed_109 (by decide) ?_
          refine lv_iadd hx hb dX11_feed_110 ?_
          refine relit (v := (nI (n + 1))) (nadd (a := n) (b := 1) (by omega)) ?_
          refine xput F hP hD hS 0 rfl rfl inX11 tyX11_ok nmX11 1 (by decide) tb1183 rfl rfl rfl (Nat.le_of_ble_eq_true rfl) dX11_feed_111 (fun H locs hP hD hS => ?_)
          have hP : va_P g vwCl [(h1, .inr (11, [.int 0, .int (nI (n + 1)), .ref h2, x3, x4, x5, x6, x7, x8, x9, x10, x11, x12, x13, x14, x15, x16, x17, x18, x19, x20, x21, x22, x23, x24, x25, x26, x27, x28, x29, x30, x31, x32, x33, x34, x35, x36, x37, x38, x39, x40, x41, x42, x43, x44, x45, x46, x47, x48, x49, x50, x51, x52, x53, x54, x55, x56, x57, x58, x59, x60, x61, x62, x63, x64, x65, x66, x67, x68, x69, x70, x71, x72, x73])), (h2, .inl (aC 0, 1000, .inl f_171))] H := hP
          have hD : va_D A [(h1, .inr (11, [.int 0, .int (nI (n + 1)), .ref h2, x3, x4, x5, x6, x7, x8, x9, x10, x11, x12, x13, x14, x15, x16, x17, x18, x19, x20, x21, x22, x23, x24, x25, x26, x27, x28, x29, x30, x31, x32, x33, x34, x35, x36, x37, x38, x39, x40, x41, x42, x43, x44, x45, x46, x47, x48, x49, x50, x51, x52, x53, x54, x55, x56, x57, x58, x59, x60, x61, x62, x63, x64, x65, x66, x67, x68, x69, x70, x71, x72, x73])), (h2, .inl (aC 0, 1000, .inl f_171))] := hD
          refine lv_iinc (v := 3) (lv' := [(7, .int 3), (10, .int Sv), (8, .long m_1), (0, .ref h1), (1, .long m_1), (3, .long m_2), (5, .long m_3)]) hx hb dX11_feed_114 hl (k := 2) rfl (by decide +kernel) (by decide) rfl (fun ls hl => ?_)
          refine lv_goto (tgt := 8) hx hb dX11_feed_117 (by decide) ?_
          exact hc3 (n + 1) f_171 _ _ _ (f8_up 2 hn eSv (okb_in c169 c170)) (by omega) (hP.sub [0, 1] rfl) (hD.sub [0, 1] (by decide) rfl) hS (lv_sub hl [0, 3, 4, 5, 6] rfl)
  have hc1 : ∀ (n : Nat) (f : Nat → Int32) (H : Heap) (locs : List Loc) (ls : Array Slot), n = 0 + f8 m_1 1 → n ≤ 1 → va_P g vwCl [(h1, .inr (11, [.int 0, .int (nI n), .ref h2, x3, x4, x5, x6, x7, x8, x9, x10, x11, x12, x13, x14, x15, x16, x17, x18, x19, x20, x21, x22, x23, x24, x25, x26, x27, x28, x29, x30, x31, x32, x33, x34, x35, x36, x37, x38, x39, x40, x41, x42, x43, x44, x45, x46, x47, x48, x49, x50, x51, x52, x53, x54, x55, x56, x57, x58, x59, x60, x61, x62, x63, x64, x65, x66, x67, x68, x69, x70, x71, x72, x73])), (h2, .inl (aC 0, 1000, .inl f))] H → va_D A [(h1, .inr (11, [.int 0, .int (nI n), .ref h2, x3, x4, x5, x6, x7, x8, x9, x10, x11, x12, x13, x14, x15, x16, x17, x18, x19, x20, x21, x22, x23, x24, x25, x26, x27, x28, x29, x30, x31, x32, x33, x34, x35, x36, x37, x38, x39, x40, x41, x42, x43, x44, x45, x46, x47, x48, x49, x50, x51, x52, x53, x54, x55, x56, x57, x58, x59, x60, x61, x62, x63, x64, x65, x66, x67, x68, x69, x70, x71, x72, x73])), (h2, .inl (aC 0, 1000, .inl f))] → va_S A s.heap H locs → lv_has ls 11 [(7, .int 1), (0, .ref h1), (1, .long m_1), (3, .long m_2), (5, .long m_3)] → W p l e (rmL 1 0 0) s m [.ref h1, .long m_1, .long m_2, .long m_3].toArray below meth c H locs 0 0 (MQ below (QI g (fun (r : Int32) (_ : Unit) => r = (nI (((0 + f8 m_1 8) + f8 m_2 8) + f8 m_3 8))) (fun (_ : Unit) => []) A) [.ref h1, .long m_1, .long m_2, .long m_3].toArray s 0 0 A) (F0 m 8 ls []) := by
    intro n f H locs ls hn hb_ hP hD hS hl
    refine lv_iload hx hb dX11_feed_8 (lv_at hl 0 rfl) ?_
    refine lv_bipush (v := 24) hx hb dX11_feed_10 (by decide) ?_
    refine lv_icmp_ge (tgt := 120) hx hb dX11_feed_12 (by decide) (fun c_ => absurd c_ (by decide +kernel)) (fun _ => ?_)
    refine lv_iload hx hb dX11_feed_15 (lv_at hl 0 rfl) ?_
    refine lv_bipush (v := 8) hx hb dX11_feed_17 (by decide) ?_
    refine lv_icmp_ge (tgt := 26) hx hb dX11_feed_19 (by decide) (fun c_ => absurd c_ (by decide +kernel)) (fun _ => ?_)
    refine lv_lload_n hx hb dX11_feed_22 rfl (lv_at hl 2 rfl) ?_
    refine lv_goto (tgt := 39) hx hb dX11_feed_23 (by decide) ?_
    refine lv_lstore (lv' := [(8, .long m_1), (7, .int 1), (0, .ref h1), (1, .long m_1), (3, .long m_2), (5, .long m_3)]) hx hb dX11_feed_39 hl (by decide) rfl (fun ls hl => ?_)
    refine lv_lload hx hb dX11_feed_41 (lv_at hl 0 rfl) ?_
    refine lv_bipush (v := 56) hx hb dX11_feed_43 (by decide) ?_
    refine lv_bipush (v := 8) hx hb dX11_feed_45 (by decide) ?_
    refine lv_iload hx hb dX11_feed_47 (lv_at hl 1 rfl) ?_
    refine lv_bipush (v := 7) hx hb dX11_feed_49 (by decide) ?_
    refine lv_iand hx hb dX11_feed_51 ?_
    refine relit (v := 1) (by decide +kernel) ?_
    refine lv_imul hx hb dX11_feed_52 ?_
    refine relit (v := 8) (by decide +kernel) ?_
    refine lv_isub hx hb dX11_feed_53 ?_
    refine relit (v := 48) (by decide +kernel) ?_
    refine lv_lushr (v := ((m_1.toUInt64 >>> ((48 : Int32).toInt64.toUInt64 &&& Int64.toUInt64 63)).toInt64)) hx hb dX11_feed_54 rfl ?_
    refine lv_ldc2 (v := 255) hx hb hown (hts _ tb1414) dX11_feed_55 ?_
    refine lv_land hx hb dX11_feed_58 ?_
    refine lv_l2i (v := ((((m_1.toUInt64 >>> ((48 : Int32).toInt64.toUInt64 &&& Int64.toUInt64 63)).toInt64) &&& 255).toInt32)) hx hb dX11_feed_59 rfl ?_
    obtain ⟨Sv, eSv⟩ : ∃ z : Int32, z = ((((m_1.toUInt64 >>> ((48 : Int32).toInt64.toUInt64 &&& Int64.toUInt64 63)).toInt64) &&& 255).toInt32) := ⟨_, rfl⟩
    refine relit (v := Sv) eSv.symm ?_
    refine lv_istore (lv' := [(10, .int Sv), (8, .long m_1), (7, .int 1), (0, .ref h1), (1, .long m_1), (3, .long m_2), (5, .long m_3)]) hx hb dX11_feed_60 hl (by decide) rfl (fun ls hl => ?_)
    refine lv_aload_n hx hb dX11_feed_62 rfl (lv_at hl 3 rfl) ?_
    refine xget F hP 0 rfl rfl inX11 1 (by decide) tb1183 rfl dX11_feed_63 ?_
    refine lv_sipush (v := 1000) hx hb dX11_feed_66 (by decide) ?_
    refine lv_icmp_ge (tgt := 114) hx hb dX11_feed_69 (by decide) (fun c_ => absurd c_ (show ¬ (nI 1000 ≤ nI n) by rw [nI_leI (by omega) (by omega)]; omega)) (fun _ => ?_)
    refine lv_iload hx hb dX11_feed_72 (lv_at hl 0 rfl) ?_
    refine lv_bipush (v := 10) hx hb dX11_feed_74 (by decide) ?_
    refine lv_icmp_eq (tgt := 93) hx hb dX11_feed_76 (by decide) (fun c174 => ?_) (fun c174 => ?_)
    · refine lv_aload_n hx hb dX11_feed_93 rfl (lv_at hl 3 rfl) ?_
      refine xget F hP 0 rfl rfl inX11 2 (by decide) tb1184 rfl dX11_feed_94 ?_
      refine lv_aload_n hx hb dX11_feed_97 rfl (lv_at hl 3 rfl) ?_
      refine xget F hP 0 rfl rfl inX11 1 (by decide) tb1183 rfl dX11_feed_98 ?_
      refine lv_iload hx hb dX11_feed_101 (lv_at hl 0 rfl) ?_
      refine xistE F hP hD hS 1 rfl n (nI_pos (by omega)) (nI_clamp (by omega)) (by omega) dX11_feed_103 (fun f_175 H locs hP hD hS => ?_)
      have hP : va_P g vwCl [(h1, .inr (11, [.int 0, .int (nI n), .ref h2, x3, x4, x5, x6, x7, x8, x9, x10, x11, x12, x13, x14, x15, x16, x17, x18, x19, x20, x21, x22, x23, x24, x25, x26, x27, x28, x29, x30, x31, x32, x33, x34, x35, x36, x37, x38, x39, x40, x41, x42, x43, x44, x45, x46, x47, x48, x49, x50, x51, x52, x53, x54, x55, x56, x57, x58, x59, x60, x61, x62, x63, x64, x65, x66, x67, x68, x69, x70, x71, x72, x73])), (h2, .inl (aC 0, 1000, .inl f_175))] H := hP
      have hD : va_D A [(h1, .inr (11, [.int 0, .int (nI n), .ref h2, x3, x4, x5, x6, x7, x8, x9, x10, x11, x12, x13, x14, x15, x16, x17, x18, x19, x20, x21, x22, x23, x24, x25, x26, x27, x28, x29, x30, x31, x32, x33, x34, x35, x36, x37, x38, x39, x40, x41, x42, x43, x44, x45, x46, x47, x48, x49, x50, x51, x52, x53, x54, x55, x56, x57, x58, x59, x60, x61, x62, x63, x64, x65, x66, x67, x68, x69, x70, x71, x72, x73])), (h2, .inl (aC 0, 1000, .inl f_175))] := hD
      refine lv_aload_n hx hb dX11_feed_104 rfl (lv_at hl 3 rfl) ?_
      refine lv_dup hx hb dX11_feed_105 rfl ?_
      refine xget F hP 0 rfl rfl inX11 1 (by decide) tb1183 rfl dX11_feed_106 ?_
      refine lv_iconst (v := 1) hx hb dX11_feed_109 (by decide) ?_
      refine lv_iadd hx hb dX11_feed_110 ?_
      refine relit (v := (nI (n + 1))) (nadd (a := n) (b := 1) (by omega)) ?_
      refine xput F hP hD hS 0 rfl rfl inX11 tyX11_ok nmX11 1 (by decide) tb1183 rfl rfl rfl (Nat.le_of_ble_eq_true rfl) dX11_feed_111 (fun H locs hP hD hS => ?_)
      have hP : va_P g vwCl [(h1, .inr (11, [.int 0, .int (nI (n + 1)), .ref h2, x3, x4, x5, x6, x7, x8, x9, x10, x11, x12, x13, x14, x15, x16, x17, x18, x19, x20, x21, x22, x23, x24, x25, x26, x27, x28, x29, x30, x31, x32, x33, x34, x35, x36, x37, x38, x39, x40, x41, x42, x43, x44, x45, x46, x47, x48, x49, x50, x51, x52, x53, x54, x55, x56, x57, x58, x59, x60, x61, x62, x63, x64, x65, x66, x67, x68, x69, x70, x71, x72, x73])), (h2, .inl (aC 0, 1000, .inl f_175))] H := hP
      have hD : va_D A [(h1, .inr (11, [.int 0, .int (nI (n + 1)), .ref h2, x3, x4, x5, x6, x7, x8, x9, x10, x11, x12, x13, x14, x15, x16, x17, x18, x19, x20, x21, x22, x23, x24, x25, x26, x27, x28, x29, x30, x31, x32, x33, x34, x35, x36, x37, x38, x39, x40, x41, x42, x43, x44, x45, x46, x47, x48, x49, x50, x51, x52, x53, x54, x55, x56, x57, x58, x59, x60, x61, x62, x63, x64, x65, x66, x67, x68, x69, x70, x71, x72, x73])), (h2, .inl (aC 0, 1000, .inl f_175))] := hD
      refine lv_iinc (v := 2) (lv' := [(7, .int 2), (10, .int Sv), (8, .long m_1), (0, .ref h1), (1, .long m_1), (3, .long m_2), (5, .long m_3)]) hx hb dX11_feed_114 hl (k := 2) rfl (by decide +kernel) (by decide) rfl (fun ls hl => ?_)
      refine lv_goto (tgt := 8) hx hb dX11_feed_117 (by decide) ?_
      exact hc2 (n + 1) f_175 _ _ _ (f8_up 1 hn eSv (okb_eq c174)) (by omega) (hP.sub [0, 1] rfl) (hD.sub [0, 1] (by decide) rfl) hS (lv_sub hl [0, 3, 4, 5, 6] rfl)
    · refine lv_iload hx hb dX11_feed_79 (lv_at hl 0 rfl) ?_
      refine lv_bipush (v := 32) hx hb dX11_feed_81 (by decide) ?_
      refine lv_icmp_lt (tgt := 114) hx hb dX11_feed_83 (by decide) (fun c176 => ?_) (fun c176 => ?_)
      · refine lv_iinc (v := 2) (lv' := [(7, .int 2), (10, .int Sv), (8, .long m_1), (0, .ref h1), (1, .long m_1), (3, .long m_2), (5, .long m_3)]) hx hb dX11_feed_114 hl (k := 2) rfl (by decide +kernel) (by decide) rfl (fun ls hl => ?_)
        refine lv_goto (tgt := 8) hx hb dX11_feed_117 (by decide) ?_
        exact hc2 (n) f _ _ _ (f8_st 1 hn eSv (okb_lo c174 c176)) (by omega) (hP.sub [0, 1] rfl) (hD.sub [0, 1] (by decide) rfl) hS (lv_sub hl [0, 3, 4, 5, 6] rfl)
      · refine lv_iload hx hb dX11_feed_86 (lv_at hl 0 rfl) ?_
        refine lv_bipush (v := 126) hx hb dX11_feed_88 (by decide) ?_
        refine lv_icmp_gt (tgt := 114) hx hb dX11_feed_90 (by decide) (fun c177 => ?_) (fun c177 => ?_)
        · refine lv_iinc (v := 2) (lv' := [(7, .int 2), (10, .int Sv), (8, .long m_1), (0, .ref h1), (1, .long m_1), (3, .long m_2), (5, .long m_3)]) hx hb dX11_feed_114 hl (k := 2) rfl (by decide +kernel) (by decide) rfl (fun ls hl => ?_)
          refine lv_goto (tgt := 8) hx hb dX11_feed_117 (by decide) ?_
          exact hc2 (n) f _ _ _ (f8_st 1 hn eSv (okb_hi c174 c177)) (by omega) (hP.sub [0, 1] rfl) (hD.sub [0, 1] (by decide) rfl) hS (lv_sub hl [0, 3, 4, 5, 6] rfl)
        · refine lv_aload_n hx hb dX11_feed_93 rfl (lv_at hl 3 rfl) ?_
          refine xget F hP 0 rfl rfl inX11 2 (by decide) tb1184 rfl dX11_feed_94 ?_
          refine lv_aload_n hx hb dX11_feed_97 rfl (lv_at hl 3 rfl) ?_
          refine xget F hP 0 rfl rfl inX11 1 (by decide) tb1183 rfl dX11_feed_98 ?_
          refine lv_iload hx hb dX11_feed_101 (lv_at hl 0 rfl) ?_
          refine xistE F hP hD hS 1 rfl n (nI_pos (by omega)) (nI_clamp (by omega)) (by omega) dX11_feed_103 (fun f_178 H locs hP hD hS => ?_)
          have hP : va_P g vwCl [(h1, .inr (11, [.int 0, .int (nI n), .ref h2, x3, x4, x5, x6, x7, x8, x9, x10, x11, x12, x13, x14, x15, x16, x17, x18, x19, x20, x21, x22, x23, x24, x25, x26, x27, x28, x29, x30, x31, x32, x33, x34, x35, x36, x37, x38, x39, x40, x41, x42, x43, x44, x45, x46, x47, x48, x49, x50, x51, x52, x53, x54, x55, x56, x57, x58, x59, x60, x61, x62, x63, x64, x65, x66, x67, x68, x69, x70, x71, x72, x73])), (h2, .inl (aC 0, 1000, .inl f_178))] H := hP
          have hD : va_D A [(h1, .inr (11, [.int 0, .int (nI n), .ref h2, x3, x4, x5, x6, x7, x8, x9, x10, x11, x12, x13, x14, x15, x16, x17, x18, x19, x20, x21, x22, x23, x24, x25, x26, x27, x28, x29, x30, x31, x32, x33, x34, x35, x36, x37, x38, x39, x40, x41, x42, x43, x44, x45, x46, x47, x48, x49, x50, x51, x52, x53, x54, x55, x56, x57, x58, x59, x60, x61, x62, x63, x64, x65, x66, x67, x68, x69, x70, x71, x72, x73])), (h2, .inl (aC 0, 1000, .inl f_178))] := hD
          refine lv_aload_n hx hb dX11_feed_104 rfl (lv_at hl 3 rfl) ?_
          refine lv_dup hx hb dX11_feed_105 rfl ?_
          refine xget F hP 0 rfl rfl inX11 1 (by decide) tb1183 rfl dX11_feed_106 ?_
          refine lv_iconst (v := 1) hx hb dX11_feed_109 (by decide) ?_
          refine lv_iadd hx hb dX11_feed_110 ?_
          refine relit (v := (nI (n + 1))) (nadd (a := n) (b := 1) (by omega)) ?_
          refine xput F hP hD hS 0 rfl rfl inX11 tyX11_ok nmX11 1 (by decide) tb1183 rfl rfl rfl (Nat.le_of_ble_eq_true rfl) dX11_feed_111 (fun H locs hP hD hS => ?_)
          have hP : va_P g vwCl [(h1, .inr (11, [.int 0, .int (nI (n + 1)), .ref h2, x3, x4, x5, x6, x7, x8, x9, x10, x11, x12, x13, x14, x15, x16, x17, x18, x19, x20, x21, x22, x23, x24, x25, x26, x27, x28, x29, x30, x31, x32, x33, x34, x35, x36, x37, x38, x39, x40, x41, x42, x43, x44, x45, x46, x47, x48, x49, x50, x51, x52, x53, x54, x55, x56, x57, x58, x59, x60, x61, x62, x63, x64, x65, x66, x67, x68, x69, x70, x71, x72, x73])), (h2, .inl (aC 0, 1000, .inl f_178))] H := hP
          have hD : va_D A [(h1, .inr (11, [.int 0, .int (nI (n + 1)), .ref h2, x3, x4, x5, x6, x7, x8, x9, x10, x11, x12, x13, x14, x15, x16, x17, x18, x19, x20, x21, x22, x23, x24, x25, x26, x27, x28, x29, x30, x31, x32, x33, x34, x35, x36, x37, x38, x39, x40, x41, x42, x43, x44, x45, x46, x47, x48, x49, x50, x51, x52, x53, x54, x55, x56, x57, x58, x59, x60, x61, x62, x63, x64, x65, x66, x67, x68, x69, x70, x71, x72, x73])), (h2, .inl (aC 0, 1000, .inl f_178))] := hD
          refine lv_iinc (v := 2) (lv' := [(7, .int 2), (10, .int Sv), (8, .long m_1), (0, .ref h1), (1, .long m_1), (3, .long m_2), (5, .long m_3)]) hx hb dX11_feed_114 hl (k := 2) rfl (by decide +kernel) (by decide) rfl (fun ls hl => ?_)
          refine lv_goto (tgt := 8) hx hb dX11_feed_117 (by decide) ?_
          exact hc2 (n + 1) f_178 _ _ _ (f8_up 1 hn eSv (okb_in c176 c177)) (by omega) (hP.sub [0, 1] rfl) (hD.sub [0, 1] (by decide) rfl) hS (lv_sub hl [0, 3, 4, 5, 6] rfl)
  have hc0 : ∀ (n : Nat) (f : Nat → Int32) (H : Heap) (locs : List Loc) (ls : Array Slot), n = 0 + f8 m_1 0 → n ≤ 0 → va_P g vwCl [(h1, .inr (11, [.int 0, .int (nI n), .ref h2, x3, x4, x5, x6, x7, x8, x9, x10, x11, x12, x13, x14, x15, x16, x17, x18, x19, x20, x21, x22, x23, x24, x25, x26, x27, x28, x29, x30, x31, x32, x33, x34, x35, x36, x37, x38, x39, x40, x41, x42, x43, x44, x45, x46, x47, x48, x49, x50, x51, x52, x53, x54, x55, x56, x57, x58, x59, x60, x61, x62, x63, x64, x65, x66, x67, x68, x69, x70, x71, x72, x73])), (h2, .inl (aC 0, 1000, .inl f))] H → va_D A [(h1, .inr (11, [.int 0, .int (nI n), .ref h2, x3, x4, x5, x6, x7, x8, x9, x10, x11, x12, x13, x14, x15, x16, x17, x18, x19, x20, x21, x22, x23, x24, x25, x26, x27, x28, x29, x30, x31, x32, x33, x34, x35, x36, x37, x38, x39, x40, x41, x42, x43, x44, x45, x46, x47, x48, x49, x50, x51, x52, x53, x54, x55, x56, x57, x58, x59, x60, x61, x62, x63, x64, x65, x66, x67, x68, x69, x70, x71, x72, x73])), (h2, .inl (aC 0, 1000, .inl f))] → va_S A s.heap H locs → lv_has ls 11 [(7, .int 0), (0, .ref h1), (1, .long m_1), (3, .long m_2), (5, .long m_3)] → W p l e (rmL 1 0 0) s m [.ref h1, .long m_1, .long m_2, .long m_3].toArray below meth c H locs 0 0 (MQ below (QI g (fun (r : Int32) (_ : Unit) => r = (nI (((0 + f8 m_1 8) + f8 m_2 8) + f8 m_3 8))) (fun (_ : Unit) => []) A) [.ref h1, .long m_1, .long m_2, .long m_3].toArray s 0 0 A) (F0 m 8 ls []) := by
    intro n f H locs ls hn hb_ hP hD hS hl
    refine lv_iload hx hb dX11_feed_8 (lv_at hl 0 rfl) ?_
    refine lv_bipush (v := 24) hx hb dX11_feed_10 (by decide) ?_
    refine lv_icmp_ge (tgt := 120) hx hb dX11_feed_12 (by decide) (fun c_ => absurd c_ (by decide +kernel)) (fun _ => ?_)
    refine lv_iload hx hb dX11_feed_15 (lv_at hl 0 rfl) ?_
    refine lv_bipush (v := 8) hx hb dX11_feed_17 (by decide) ?_
    refine lv_icmp_ge (tgt := 26) hx hb dX11_feed_19 (by decide) (fun c_ => absurd c_ (by decide +kernel)) (fun _ => ?_)
    refine lv_lload_n hx hb dX11_feed_22 rfl (lv_at hl 2 rfl) ?_
    refine lv_goto (tgt := 39) hx hb dX11_feed_23 (by decide) ?_
    refine lv_lstore (lv' := [(8, .long m_1), (7, .int 0), (0, .ref h1), (1, .long m_1), (3, .long m_2), (5, .long m_3)]) hx hb dX11_feed_39 hl (by decide) rfl (fun ls hl => ?_)
    refine lv_lload hx hb dX11_feed_41 (lv_at hl 0 rfl) ?_
    refine lv_bipush (v := 56) hx hb dX11_feed_43 (by decide) ?_
    refine lv_bipush (v := 8) hx hb dX11_feed_45 (by decide) ?_
    refine lv_iload hx hb dX11_feed_47 (lv_at hl 1 rfl) ?_
    refine lv_bipush (v := 7) hx hb dX11_feed_49 (by decide) ?_
    refine lv_iand hx hb dX11_feed_51 ?_
    refine relit (v := 0) (by decide +kernel) ?_
    refine lv_imul hx hb dX11_feed_52 ?_
    refine relit (v := 0) (by decide +kernel) ?_
    refine lv_isub hx hb dX11_feed_53 ?_
    refine relit (v := 56) (by decide +kernel) ?_
    refine lv_lushr (v := ((m_1.toUInt64 >>> ((56 : Int32).toInt64.toUInt64 &&& Int64.toUInt64 63)).toInt64)) hx hb dX11_feed_54 rfl ?_
    refine lv_ldc2 (v := 255) hx hb hown (hts _ tb1414) dX11_feed_55 ?_
    refine lv_land hx hb dX11_feed_58 ?_
    refine lv_l2i (v := ((((m_1.toUInt64 >>> ((56 : Int32).toInt64.toUInt64 &&& Int64.toUInt64 63)).toInt64) &&& 255).toInt32)) hx hb dX11_feed_59 rfl ?_
    obtain ⟨Sv, eSv⟩ : ∃ z : Int32, z = ((((m_1.toUInt64 >>> ((56 : Int32).toInt64.toUInt64 &&& Int64.toUInt64 63)).toInt64) &&& 255).toInt32) := ⟨_, rfl⟩
    refine relit (v := Sv) eSv.symm ?_
    refine lv_istore (lv' := [(10, .int Sv), (8, .long m_1), (7, .int 0), (0, .ref h1), (1, .long m_1), (3, .long m_2), (5, .long m_3)]) hx hb dX11_feed_60 hl (by decide) rfl (fun ls hl => ?_)
    refine lv_aload_n hx hb dX11_feed_62 rfl (lv_at hl 3 rfl) ?_
    refine xget F hP 0 rfl rfl inX11 1 (by decide) tb1183 rfl dX11_feed_63 ?_
    refine lv_sipush (v := 1000) hx hb dX11_feed_66 (by decide) ?_
    refine lv_icmp_ge (tgt := 114) hx hb dX11_feed_69 (by decide) (fun c_ => absurd c_ (show ¬ (nI 1000 ≤ nI n) by rw [nI_leI (by omega) (by omega)]; omega)) (fun _ => ?_)
    refine lv_iload hx hb dX11_feed_72 (lv_at hl 0 rfl) ?_
    refine lv_bipush (v := 10) hx hb dX11_feed_74 (by decide) ?_
    refine lv_icmp_eq (tgt := 93) hx hb dX11_feed_76 (by decide) (fun c181 => ?_) (fun c181 => ?_)
    · refine lv_aload_n hx hb dX11_feed_93 rfl (lv_at hl 3 rfl) ?_
      refine xget F hP 0 rfl rfl inX11 2 (by decide) tb1184 rfl dX11_feed_94 ?_
      refine lv_aload_n hx hb dX11_feed_97 rfl (lv_at hl 3 rfl) ?_
      refine xget F hP 0 rfl rfl inX11 1 (by decide) tb1183 rfl dX11_feed_98 ?_
      refine lv_iload hx hb dX11_feed_101 (lv_at hl 0 rfl) ?_
      refine xistE F hP hD hS 1 rfl n (nI_pos (by omega)) (nI_clamp (by omega)) (by omega) dX11_feed_103 (fun f_182 H locs hP hD hS => ?_)
      have hP : va_P g vwCl [(h1, .inr (11, [.int 0, .int (nI n), .ref h2, x3, x4, x5, x6, x7, x8, x9, x10, x11, x12, x13, x14, x15, x16, x17, x18, x19, x20, x21, x22, x23, x24, x25, x26, x27, x28, x29, x30, x31, x32, x33, x34, x35, x36, x37, x38, x39, x40, x41, x42, x43, x44, x45, x46, x47, x48, x49, x50, x51, x52, x53, x54, x55, x56, x57, x58, x59, x60, x61, x62, x63, x64, x65, x66, x67, x68, x69, x70, x71, x72, x73])), (h2, .inl (aC 0, 1000, .inl f_182))] H := hP
      have hD : va_D A [(h1, .inr (11, [.int 0, .int (nI n), .ref h2, x3, x4, x5, x6, x7, x8, x9, x10, x11, x12, x13, x14, x15, x16, x17, x18, x19, x20, x21, x22, x23, x24, x25, x26, x27, x28, x29, x30, x31, x32, x33, x34, x35, x36, x37, x38, x39, x40, x41, x42, x43, x44, x45, x46, x47, x48, x49, x50, x51, x52, x53, x54, x55, x56, x57, x58, x59, x60, x61, x62, x63, x64, x65, x66, x67, x68, x69, x70, x71, x72, x73])), (h2, .inl (aC 0, 1000, .inl f_182))] := hD
      refine lv_aload_n hx hb dX11_feed_104 rfl (lv_at hl 3 rfl) ?_
      refine lv_dup hx hb dX11_feed_105 rfl ?_
      refine xget F hP 0 rfl rfl inX11 1 (by decide) tb1183 rfl dX11_feed_106 ?_
      refine lv_iconst (v := 1) hx hb dX11_feed_109 (by decide) ?_
      refine lv_iadd hx hb dX11_feed_110 ?_
      refine relit (v := (nI (n + 1))) (nadd (a := n) (b := 1) (by omega)) ?_
      refine xput F hP hD hS 0 rfl rfl inX11 tyX11_ok nmX11 1 (by decide) tb1183 rfl rfl rfl (Nat.le_of_ble_eq_true rfl) dX11_feed_111 (fun H locs hP hD hS => ?_)
      have hP : va_P g vwCl [(h1, .inr (11, [.int 0, .int (nI (n + 1)), .ref h2, x3, x4, x5, x6, x7, x8, x9, x10, x11, x12, x13, x14, x15, x16, x17, x18, x19, x20, x21, x22, x23, x24, x25, x26, x27, x28, x29, x30, x31, x32, x33, x34, x35, x36, x37, x38, x39, x40, x41, x42, x43, x44, x45, x46, x47, x48, x49, x50, x51, x52, x53, x54, x55, x56, x57, x58, x59, x60, x61, x62, x63, x64, x65, x66, x67, x68, x69, x70, x71, x72, x73])), (h2, .inl (aC 0, 1000, .inl f_182))] H := hP
      have hD : va_D A [(h1, .inr (11, [.int 0, .int (nI (n + 1)), .ref h2, x3, x4, x5, x6, x7, x8, x9, x10, x11, x12, x13, x14, x15, x16, x17, x18, x19, x20, x21, x22, x23, x24, x25, x26, x27, x28, x29, x30, x31, x32, x33, x34, x35, x36, x37, x38, x39, x40, x41, x42, x43, x44, x45, x46, x47, x48, x49, x50, x51, x52, x53, x54, x55, x56, x57, x58, x59, x60, x61, x62, x63, x64, x65, x66, x67, x68, x69, x70, x71, x72, x73])), (h2, .inl (aC 0, 1000, .inl f_182))] := hD
      refine lv_iinc (v := 1) (lv' := [(7, .int 1), (10, .int Sv), (8, .long m_1), (0, .ref h1), (1, .long m_1), (3, .long m_2), (5, .long m_3)]) hx hb dX11_feed_114 hl (k := 2) rfl (by decide +kernel) (by decide) rfl (fun ls hl => ?_)
      refine lv_goto (tgt := 8) hx hb dX11_feed_117 (by decide) ?_
      exact hc1 (n + 1) f_182 _ _ _ (f8_up 0 hn eSv (okb_eq c181)) (by omega) (hP.sub [0, 1] rfl) (hD.sub [0, 1] (by decide) rfl) hS (lv_sub hl [0, 3, 4, 5, 6] rfl)
    · refine lv_iload hx hb dX11_feed_79 (lv_at hl 0 rfl) ?_
      refine lv_bipush (v := 32) hx hb dX11_feed_81 (by decide) ?_
      refine lv_icmp_lt (tgt := 114) hx hb dX11_feed_83 (by decide) (fun c183 => ?_) (fun c183 => ?_)
      · refine lv_iinc (v := 1) (lv' := [(7, .int 1), (10, .int Sv), (8, .long m_1), (0, .ref h1), (1, .long m_1), (3, .long m_2), (5, .long m_3)]) hx hb dX11_feed_114 hl (k := 2) rfl (by decide +kernel) (by decide) rfl (fun ls hl => ?_)
        refine lv_goto (tgt := 8) hx hb dX11_feed_117 (by decide) ?_
        exact hc1 (n) f _ _ _ (f8_st 0 hn eSv (okb_lo c181 c183)) (by omega) (hP.sub [0, 1] rfl) (hD.sub [0, 1] (by decide) rfl) hS (lv_sub hl [0, 3, 4, 5, 6] rfl)
      · refine lv_iload hx hb dX11_feed_86 (lv_at hl 0 rfl) ?_
        refine lv_bipush (v := 126) hx hb dX11_feed_88 (by decide) ?_
        refine lv_icmp_gt (tgt := 114) hx hb dX11_feed_90 (by decide) (fun c184 => ?_) (fun c184 => ?_)
        · refine lv_iinc (v := 1) (lv' := [(7, .int 1), (10, .int Sv), (8, .long m_1), (0, .ref h1), (1, .long m_1), (3, .long m_2), (5, .long m_3)]) hx hb dX11_feed_114 hl (k := 2) rfl (by decide +kernel) (by decide) rfl (fun ls hl => ?_)
          refine lv_goto (tgt := 8) hx hb dX11_feed_117 (by decide) ?_
          exact hc1 (n) f _ _ _ (f8_st 0 hn eSv (okb_hi c181 c184)) (by omega) (hP.sub [0, 1] rfl) (hD.sub [0, 1] (by decide) rfl) hS (lv_sub hl [0, 3, 4, 5, 6] rfl)
        · refine lv_aload_n hx hb dX11_feed_93 rfl (lv_at hl 3 rfl) ?_
          refine xget F hP 0 rfl rfl inX11 2 (by decide) tb1184 rfl dX11_feed_94 ?_
          refine lv_aload_n hx hb dX11_feed_97 rfl (lv_at hl 3 rfl) ?_
          refine xget F hP 0 rfl rfl inX11 1 (by decide) tb1183 rfl dX11_feed_98 ?_
          refine lv_iload hx hb dX11_feed_101 (lv_at hl 0 rfl) ?_
          refine xistE F hP hD hS 1 rfl n (nI_pos (by omega)) (nI_clamp (by omega)) (by omega) dX11_feed_103 (fun f_185 H locs hP hD hS => ?_)
          have hP : va_P g vwCl [(h1, .inr (11, [.int 0, .int (nI n), .ref h2, x3, x4, x5, x6, x7, x8, x9, x10, x11, x12, x13, x14, x15, x16, x17, x18, x19, x20, x21, x22, x23, x24, x25, x26, x27, x28, x29, x30, x31, x32, x33, x34, x35, x36, x37, x38, x39, x40, x41, x42, x43, x44, x45, x46, x47, x48, x49, x50, x51, x52, x53, x54, x55, x56, x57, x58, x59, x60, x61, x62, x63, x64, x65, x66, x67, x68, x69, x70, x71, x72, x73])), (h2, .inl (aC 0, 1000, .inl f_185))] H := hP
          have hD : va_D A [(h1, .inr (11, [.int 0, .int (nI n), .ref h2, x3, x4, x5, x6, x7, x8, x9, x10, x11, x12, x13, x14, x15, x16, x17, x18, x19, x20, x21, x22, x23, x24, x25, x26, x27, x28, x29, x30, x31, x32, x33, x34, x35, x36, x37, x38, x39, x40, x41, x42, x43, x44, x45, x46, x47, x48, x49, x50, x51, x52, x53, x54, x55, x56, x57, x58, x59, x60, x61, x62, x63, x64, x65, x66, x67, x68, x69, x70, x71, x72, x73])), (h2, .inl (aC 0, 1000, .inl f_185))] := hD
          refine lv_aload_n hx hb dX11_feed_104 rfl (lv_at hl 3 rfl) ?_
          refine lv_dup hx hb dX11_feed_105 rfl ?_
          refine xget F hP 0 rfl rfl inX11 1 (by decide) tb1183 rfl dX11_feed_106 ?_
          refine lv_iconst (v := 1) hx hb dX11_feed_109 (by decide) ?_
          refine lv_iadd hx hb dX11_feed_110 ?_
          refine relit (v := (nI (n + 1))) (nadd (a := n) (b := 1) (by omega)) ?_
          refine xput F hP hD hS 0 rfl rfl inX11 tyX11_ok nmX11 1 (by decide) tb1183 rfl rfl rfl (Nat.le_of_ble_eq_true rfl) dX11_feed_111 (fun H locs hP hD hS => ?_)
          have hP : va_P g vwCl [(h1, .inr (11, [.int 0, .int (nI (n + 1)), .ref h2, x3, x4, x5, x6, x7, x8, x9, x10, x11, x12, x13, x14, x15, x16, x17, x18, x19, x20, x21, x22, x23, x24, x25, x26, x27, x28, x29, x30, x31, x32, x33, x34, x35, x36, x37, x38, x39, x40, x41, x42, x43, x44, x45, x46, x47, x48, x49, x50, x51, x52, x53, x54, x55, x56, x57, x58, x59, x60, x61, x62, x63, x64, x65, x66, x67, x68, x69, x70, x71, x72, x73])), (h2, .inl (aC 0, 1000, .inl f_185))] H := hP
          have hD : va_D A [(h1, .inr (11, [.int 0, .int (nI (n + 1)), .ref h2, x3, x4, x5, x6, x7, x8, x9, x10, x11, x12, x13, x14, x15, x16, x17, x18, x19, x20, x21, x22, x23, x24, x25, x26, x27, x28, x29, x30, x31, x32, x33, x34, x35, x36, x37, x38, x39, x40, x41, x42, x43, x44, x45, x46, x47, x48, x49, x50, x51, x52, x53, x54, x55, x56, x57, x58, x59, x60, x61, x62, x63, x64, x65, x66, x67, x68, x69, x70, x71, x72, x73])), (h2, .inl (aC 0, 1000, .inl f_185))] := hD
          refine lv_iinc (v := 1) (lv' := [(7, .int 1), (10, .int Sv), (8, .long m_1), (0, .ref h1), (1, .long m_1), (3, .long m_2), (5, .long m_3)]) hx hb dX11_feed_114 hl (k := 2) rfl (by decide +kernel) (by decide) rfl (fun ls hl => ?_)
          refine lv_goto (tgt := 8) hx hb dX11_feed_117 (by decide) ?_
          exact hc1 (n + 1) f_185 _ _ _ (f8_up 0 hn eSv (okb_in c183 c184)) (by omega) (hP.sub [0, 1] rfl) (hD.sub [0, 1] (by decide) rfl) hS (lv_sub hl [0, 3, 4, 5, 6] rfl)
  exact hc0 0 (fun _ => 0) _ _ _ rfl (by omega) hP hD hS hl
