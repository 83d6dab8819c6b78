theorem tb1914 : (Jvm.Cond.methodLink "StairGangModel" (603 : Nat) ({ cls := "StairGangModel", name := "laysSeen", desc := "(II)V" } : Jvm.MethodName)) ∈ gw := lw_m 1914 (by decide +kernel)
theorem tb1916 : (Jvm.Cond.instanceMethod ({ cls := "StairGangModel", name := "laysSeen", desc := "(II)V" } : Jvm.MethodName)) ∈ gw := lw_m 1916 (by decide +kernel)
theorem tb1917 : (Jvm.Cond.code ({ cls := "StairGangModel", name := "laysSeen", desc := "(II)V" } : Jvm.MethodName) prog_13_method_50_code (4 : Nat) (Option.none : Option Jvm.ClassFile.FieldType)) ∈ gw := lw_m 1917 (by decide +kernel)
theorem tv113 : Cond.selects "StairGangModel" ⟨"StairGangModel", "laysSeen", "(II)V"⟩ ⟨"StairGangModel", "laysSeen", "(II)V"⟩ ∈ gw := lw_v 113 (by decide +kernel)
theorem dX11_mark_0 : decode cX11_mark 0 = .ok (.aload_n 0, 1) := by decide +kernel
theorem dX11_mark_1 : decode cX11_mark 1 = .ok (.iconst 0, 1) := by decide +kernel
theorem dX11_mark_2 : decode cX11_mark 2 = .ok (.putfield 180, 3) := by decide +kernel
theorem dX11_mark_5 : decode cX11_mark 5 = .ok (.iload_n 1, 1) := by decide +kernel
theorem dX11_mark_6 : decode cX11_mark 6 = .ok (.iconst 0, 1) := by decide +kernel
theorem dX11_mark_7 : decode cX11_mark 7 = .ok (.iconst 3, 1) := by decide +kernel
theorem dX11_mark_8 : decode cX11_mark 8 = .ok (.invokestatic 313, 3) := by decide +kernel
theorem dX11_mark_11 : decode cX11_mark 11 = .ok (.ifCond .eq 16, 3) := by decide +kernel
theorem dX11_mark_14 : decode cX11_mark 14 = .ok (.iload_n 2, 1) := by decide +kernel
theorem dX11_mark_15 : decode cX11_mark 15 = .ok (.ifCond .eq 14, 3) := by decide +kernel
theorem dX11_mark_27 : decode cX11_mark 27 = .ok (.iconst 0, 1) := by decide +kernel
theorem dX11_mark_28 : decode cX11_mark 28 = .ok (.ireturn, 1) := by decide +kernel
theorem dX11_mark_29 : decode cX11_mark 29 = .ok (.aload_n 0, 1) := by decide +kernel
theorem dX11_mark_30 : decode cX11_mark 30 = .ok (.getfield 153, 3) := by decide +kernel
theorem dX11_mark_33 : decode cX11_mark 33 = .ok (.iload_n 1, 1) := by decide +kernel
theorem dX11_mark_34 : decode cX11_mark 34 = .ok (.iconst 1, 1) := by decide +kernel
theorem dX11_mark_35 : decode cX11_mark 35 = .ok (.bastore, 1) := by decide +kernel
theorem dX11_mark_36 : decode cX11_mark 36 = .ok (.iload_n 2, 1) := by decide +kernel
theorem dX11_mark_37 : decode cX11_mark 37 = .ok (.ifCond .eq 9, 3) := by decide +kernel
theorem dX11_mark_46 : decode cX11_mark 46 = .ok (.iconst 0, 1) := by decide +kernel
theorem dX11_mark_47 : decode cX11_mark 47 = .ok (.istore_n 3, 1) := by decide +kernel
theorem dX11_mark_48 : decode cX11_mark 48 = .ok (.iload_n 2, 1) := by decide +kernel
theorem dX11_mark_49 : decode cX11_mark 49 = .ok (.ifCond .eq 7, 3) := by decide +kernel
theorem dX11_mark_56 : decode cX11_mark 56 = .ok (.iconst 1, 1) := by decide +kernel
theorem dX11_mark_57 : decode cX11_mark 57 = .ok (.iload_n 1, 1) := by decide +kernel
theorem dX11_mark_58 : decode cX11_mark 58 = .ok (.iadd, 1) := by decide +kernel
theorem dX11_mark_59 : decode cX11_mark 59 = .ok (.istore 4, 2) := by decide +kernel
theorem dX11_mark_61 : decode cX11_mark 61 = .ok (.aload_n 0, 1) := by decide +kernel
theorem dX11_mark_62 : decode cX11_mark 62 = .ok (.iload_n 3, 1) := by decide +kernel
theorem dX11_mark_63 : decode cX11_mark 63 = .ok (.iload 4, 2) := by decide +kernel
theorem dX11_mark_65 : decode cX11_mark 65 = .ok (.invokevirtual 422, 3) := by decide +kernel
theorem dX11_mark_68 : decode cX11_mark 68 = .ok (.aload_n 0, 1) := by decide +kernel
theorem dX11_mark_69 : decode cX11_mark 69 = .ok (.iload_n 3, 1) := by decide +kernel
theorem dX11_mark_70 : decode cX11_mark 70 = .ok (.iload 4, 2) := by decide +kernel
theorem dX11_mark_72 : decode cX11_mark 72 = .ok (.invokevirtual 603, 3) := by decide +kernel
theorem dX11_mark_75 : decode cX11_mark 75 = .ok (.iload_n 2, 1) := by decide +kernel
theorem dX11_mark_76 : decode cX11_mark 76 = .ok (.ifCond .eq 27, 3) := by decide +kernel
theorem dX11_mark_103 : decode cX11_mark 103 = .ok (.aload_n 0, 1) := by decide +kernel
theorem dX11_mark_104 : decode cX11_mark 104 = .ok (.getfield 141, 3) := by decide +kernel
theorem dX11_mark_107 : decode cX11_mark 107 = .ok (.iconst 0, 1) := by decide +kernel
theorem dX11_mark_108 : decode cX11_mark 108 = .ok (.aload_n 0, 1) := by decide +kernel
theorem dX11_mark_109 : decode cX11_mark 109 = .ok (.getfield 147, 3) := by decide +kernel
theorem dX11_mark_112 : decode cX11_mark 112 = .ok (.bipush 13, 2) := by decide +kernel
theorem dX11_mark_114 : decode cX11_mark 114 = .ok (.iload_n 1, 1) := by decide +kernel
theorem dX11_mark_115 : decode cX11_mark 115 = .ok (.imul, 1) := by decide +kernel
theorem dX11_mark_116 : decode cX11_mark 116 = .ok (.invokestatic 464, 3) := by decide +kernel
set_option maxHeartbeats 4000000 in
set_option maxRecDepth 100000 in
theorem a_X11_copies_4 (l : Launch) (g : va_G) (aC : Nat → ClassId) (aM : Nat → Nat) (h1 h2 : Nat) : Ct l g aC aM yX11_copies cX11_copies 5 none 1 [.ref h1, .int 0, .ref h2, .int 0] [(h1, .inl (aC 0, 13, .inl (fun _ => 0))), (h2, .inl (aC 0, 52, .inl (fun _ => 0)))] (QV g (fun (_ : Unit) => True) (fun (_ : Unit) => [(h1, .inl (aC 0, 13, .inl (fun _ => 0))), (h2, .inl (aC 0, 52, .inl (fun _ => 0)))])) 0 0 := by
  refine Ct.mk (by decide) (Nat.le_of_ble_eq_true rfl) ?_
  intro p e s m below meth c A ls hx hb hml hown hts hr hlk hnm hK hA hM hM2 hP hD hS hl
  have hown : s.vm.findClass RX11 = some m.cls := hown
  have F : Fx p s m _ c cX11_copies 5 RX11 g aC aM A := ⟨hx, hb, hml, hown, hts, hK, hA, hM, hM2⟩
  have hl : lv_has ls 5 [(0, .ref h1), (1, .int 0), (2, .ref h2), (3, .int 0)] := hl
  refine lv_iconst (v := 0) hx hb dX11_copies_0 (by decide) ?_
  refine lv_istore (lv' := [(4, .int 0), (0, .ref h1), (1, .int 0), (2, .ref h2), (3, .int 0)]) hx hb dX11_copies_1 hl (by decide) rfl (fun ls hl => ?_)
  refine lv_iload hx hb dX11_copies_3 (lv_at hl 0 rfl) ?_
  refine lv_bipush (v := 13) hx hb dX11_copies_5 (by decide) ?_
  refine lv_icmp_ge (tgt := 28) hx hb dX11_copies_7 (by decide) (fun c_ => absurd c_ (by decide +kernel)) (fun _ => ?_)
  refine lv_aload_n hx hb dX11_copies_10 rfl (lv_at hl 3 rfl) ?_
  refine lv_iload_n hx hb dX11_copies_11 rfl (lv_at hl 4 rfl) ?_
  refine lv_iload hx hb dX11_copies_12 (lv_at hl 0 rfl) ?_
  refine lv_iadd hx hb dX11_copies_14 ?_
  refine relit (v := 0) (by decide +kernel) ?_
  refine lv_aload_n hx hb dX11_copies_15 rfl (lv_at hl 1 rfl) ?_
  refine lv_iload_n hx hb dX11_copies_16 rfl (lv_at hl 2 rfl) ?_
  refine lv_iload hx hb dX11_copies_17 (lv_at hl 0 rfl) ?_
  refine lv_iadd hx hb dX11_copies_19 ?_
  refine relit (v := 0) (by decide +kernel) ?_
  refine xilo (v := 0) F hP 0 rfl 0 (by decide +kernel) (by decide +kernel) (by decide) (by decide +kernel) dX11_copies_20 ?_
  refine xist (f' := fun _ => 0) F hP hD hS 1 rfl 0 (by decide +kernel) (by decide +kernel) (by decide) (xup0 _) dX11_copies_21 (fun H locs hP hD hS => ?_)
  have hP : va_P g vwCl [(h1, .inl (aC 0, 13, .inl (fun _ => 0))), (h2, .inl (aC 0, 52, .inl (fun _ => 0)))] H := hP
  have hD : va_D A [(h1, .inl (aC 0, 13, .inl (fun _ => 0))), (h2, .inl (aC 0, 52, .inl (fun _ => 0)))] := hD
  refine lv_iinc (v := 1) (lv' := [(4, .int 1), (0, .ref h1), (1, .int 0), (2, .ref h2), (3, .int 0)]) hx hb dX11_copies_22 hl (k := 0) rfl (by decide +kernel) (by decide) rfl (fun ls hl => ?_)
  refine lv_goto (tgt := 3) hx hb dX11_copies_25 (by decide) ?_
  refine lv_iload hx hb dX11_copies_3 (lv_at hl 0 rfl) ?_
  refine lv_bipush (v := 13) hx hb dX11_copies_5 (by decide) ?_
  refine lv_icmp_ge (tgt := 28) hx hb dX11_copies_7 (by decide) (fun c_ => absurd c_ (by decide +kernel)) (fun _ => ?_)
  refine lv_aload_n hx hb dX11_copies_10 rfl (lv_at hl 3 rfl) ?_
  refine lv_iload_n hx hb dX11_copies_11 rfl (lv_at hl 4 rfl) ?_
  refine lv_iload hx hb dX11_copies_12 (lv_at hl 0 rfl) ?_
  refine lv_iadd hx hb dX11_copies_14 ?_
  refine relit (v := 1) (by decide +kernel) ?_
  refine lv_aload_n hx hb dX11_copies_15 rfl (lv_at hl 1 rfl) ?_
  refine lv_iload_n hx hb dX11_copies_16 rfl (lv_at hl 2 rfl) ?_
  refine lv_iload hx hb dX11_copies_17 (lv_at hl 0 rfl) ?_
  refine lv_iadd hx hb dX11_copies_19 ?_
  refine relit (v := 1) (by decide +kernel) ?_
  refine xilo (v := 0) F hP 0 rfl 1 (by decide +kernel) (by decide +kernel) (by decide) (by decide +kernel) dX11_copies_20 ?_
  refine xist (f' := fun _ => 0) F hP hD hS 1 rfl 1 (by decide +kernel) (by decide +kernel) (by decide) (xup0 _) dX11_copies_21 (fun H locs hP hD hS => ?_)
  have hP : va_P g vwCl [(h1, .inl (aC 0, 13, .inl (fun _ => 0))), (h2, .inl (aC 0, 52, .inl (fun _ => 0)))] H := hP
  have hD : va_D A [(h1, .inl (aC 0, 13, .inl (fun _ => 0))), (h2, .inl (aC 0, 52, .inl (fun _ => 0)))] := hD
  refine lv_iinc (v := 2) (lv' := [(4, .int 2), (0, .ref h1), (1, .int 0), (2, .ref h2), (3, .int 0)]) hx hb dX11_copies_22 hl (k := 0) rfl (by decide +kernel) (by decide) rfl (fun ls hl => ?_)
  refine lv_goto (tgt := 3) hx hb dX11_copies_25 (by decide) ?_
  refine lv_iload hx hb dX11_copies_3 (lv_at hl 0 rfl) ?_
  refine lv_bipush (v := 13) hx hb dX11_copies_5 (by decide) ?_
  refine lv_icmp_ge (tgt := 28) hx hb dX11_copies_7 (by decide) (fun c_ => absurd c_ (by decide +kernel)) (fun _ => ?_)
  refine lv_aload_n hx hb dX11_copies_10 rfl (lv_at hl 3 rfl) ?_
  refine lv_iload_n hx hb dX11_copies_11 rfl (lv_at hl 4 rfl) ?_
  refine lv_iload hx hb dX11_copies_12 (lv_at hl 0 rfl) ?_
  refine lv_iadd hx hb dX11_copies_14 ?_
  refine relit (v := 2) (by decide +kernel) ?_
  refine lv_aload_n hx hb dX11_copies_15 rfl (lv_at hl 1 rfl) ?_
  refine lv_iload_n hx hb dX11_copies_16 rfl (lv_at hl 2 rfl) ?_
  refine lv_iload hx hb dX11_copies_17 (lv_at hl 0 rfl) ?_
  refine lv_iadd hx hb dX11_copies_19 ?_
  refine relit (v := 2) (by decide +kernel) ?_
  refine xilo (v := 0) F hP 0 rfl 2 (by decide +kernel) (by decide +kernel) (by decide) (by decide +kernel) dX11_copies_20 ?_
  refine xist (f' := fun _ => 0) F hP hD hS 1 rfl 2 (by decide +kernel) (by decide +kernel) (by decide) (xup0 _) dX11_copies_21 (fun H locs hP hD hS => ?_)
  have hP : va_P g vwCl [(h1, .inl (aC 0, 13, .inl (fun _ => 0))), (h2, .inl (aC 0, 52, .inl (fun _ => 0)))] H := hP
  have hD : va_D A [(h1, .inl (aC 0, 13, .inl (fun _ => 0))), (h2, .inl (aC 0, 52, .inl (fun _ => 0)))] := hD
  refine lv_iinc (v := 3) (lv' := [(4, .int 3), (0, .ref h1), (1, .int 0), (2, .ref h2), (3, .int 0)]) hx hb dX11_copies_22 hl (k := 0) rfl (by decide +kernel) (by decide) rfl (fun ls hl => ?_)
  refine lv_goto (tgt := 3) hx hb dX11_copies_25 (by decide) ?_
  refine lv_iload hx hb dX11_copies_3 (lv_at hl 0 rfl) ?_
  refine lv_bipush (v := 13) hx hb dX11_copies_5 (by decide) ?_
  refine lv_icmp_ge (tgt := 28) hx hb dX11_copies_7 (by decide) (fun c_ => absurd c_ (by decide +kernel)) (fun _ => ?_)
  refine lv_aload_n hx hb dX11_copies_10 rfl (lv_at hl 3 rfl) ?_
  refine lv_iload_n hx hb dX11_copies_11 rfl (lv_at hl 4 rfl) ?_
  refine lv_iload hx hb dX11_copies_12 (lv_at hl 0 rfl) ?_
  refine lv_iadd hx hb dX11_copies_14 ?_
  refine relit (v := 3) (by decide +kernel) ?_
  refine lv_aload_n hx hb dX11_copies_15 rfl (lv_at hl 1 rfl) ?_
  refine lv_iload_n hx hb dX11_copies_16 rfl (lv_at hl 2 rfl) ?_
  refine lv_iload hx hb dX11_copies_17 (lv_at hl 0 rfl) ?_
  refine lv_iadd hx hb dX11_copies_19 ?_
  refine relit (v := 3) (by decide +kernel) ?_
  refine xilo (v := 0) F hP 0 rfl 3 (by decide +kernel) (by decide +kernel) (by decide) (by decide +kernel) dX11_copies_20 ?_
  refine xist (f' := fun _ => 0) F hP hD hS 1 rfl 3 (by decide +kernel) (by decide +kernel) (by decide) (xup0 _) dX11_copies_21 (fun H locs hP hD hS => ?_)
  have hP : va_P g vwCl [(h1, .inl (aC 0, 13, .inl (fun _ => 0))), (h2, .inl (aC 0, 52, .inl (fun _ => 0)))] H := hP
  have hD : va_D A [(h1, .inl (aC 0, 13, .inl (fun _ => 0))), (h2, .inl (aC 0, 52, .inl (fun _ => 0)))] := hD
  refine lv_iinc (v := 4) (lv' := [(4, .int 4), (0, .ref h1), (1, .int 0), (2, .ref h2), (3, .int 0)]) hx hb dX11_copies_22 hl (k := 0) rfl (by decide +kernel) (by decide) rfl (fun ls hl => ?_)
  refine lv_goto (tgt := 3) hx hb dX11_copies_25 (by decide) ?_
  refine lv_iload hx hb dX11_copies_3 (lv_at hl 0 rfl) ?_
  refine lv_bipush (v := 13) hx hb dX11_copies_5 (by decide) ?_
  refine lv_icmp_ge (tgt := 28) hx hb dX11_copies_7 (by decide) (fun c_ => absurd c_ (by decide +kernel)) (fun _ => ?_)
  refine lv_aload_n hx hb dX11_copies_10 rfl (lv_at hl 3 rfl) ?_
  refine lv_iload_n hx hb dX11_copies_11 rfl (lv_at hl 4 rfl) ?_
  refine lv_iload hx hb dX11_copies_12 (lv_at hl 0 rfl) ?_
  refine lv_iadd hx hb dX11_copies_14 ?_
  refine relit (v := 4) (by decide +kernel) ?_
  refine lv_aload_n hx hb dX11_copies_15 rfl (lv_at hl 1 rfl) ?_
  refine lv_iload_n hx hb dX11_copies_16 rfl (lv_at hl 2 rfl) ?_
  refine lv_iload hx hb dX11_copies_17 (lv_at hl 0 rfl) ?_
  refine lv_iadd hx hb dX11_copies_19 ?_
  refine relit (v := 4) (by decide +kernel) ?_
  refine xilo (v := 0) F hP 0 rfl 4 (by decide +kernel) (by decide +kernel) (by decide) (by decide +kernel) dX11_copies_20 ?_
  refine xist (f' := fun _ => 0) F hP hD hS 1 rfl 4 (by decide +kernel) (by decide +kernel) (by decide) (xup0 _) dX11_copies_21 (fun H locs hP hD hS => ?_)
  have hP : va_P g vwCl [(h1, .inl (aC 0, 13, .inl (fun _ => 0))), (h2, .inl (aC 0, 52, .inl (fun _ => 0)))] H := hP
  have hD : va_D A [(h1, .inl (aC 0, 13, .inl (fun _ => 0))), (h2, .inl (aC 0, 52, .inl (fun _ => 0)))] := hD
  refine lv_iinc (v := 5) (lv' := [(4, .int 5), (0, .ref h1), (1, .int 0), (2, .ref h2), (3, .int 0)]) hx hb dX11_copies_22 hl (k := 0) rfl (by decide +kernel) (by decide) rfl (fun ls hl => ?_)
  refine lv_goto (tgt := 3) hx hb dX11_copies_25 (by decide) ?_
  refine lv_iload hx hb dX11_copies_3 (lv_at hl 0 rfl) ?_
  refine lv_bipush (v := 13) hx hb dX11_copies_5 (by decide) ?_
  refine lv_icmp_ge (tgt := 28) hx hb dX11_copies_7 (by decide) (fun c_ => absurd c_ (by decide +kernel)) (fun _ => ?_)
  refine lv_aload_n hx hb dX11_copies_10 rfl (lv_at hl 3 rfl) ?_
  refine lv_iload_n hx hb dX11_copies_11 rfl (lv_at hl 4 rfl) ?_
  refine lv_iload hx hb dX11_copies_12 (lv_at hl 0 rfl) ?_
  refine lv_iadd hx hb dX11_copies_14 ?_
  refine relit (v := 5) (by decide +kernel) ?_
  refine lv_aload_n hx hb dX11_copies_15 rfl (lv_at hl 1 rfl) ?_
  refine lv_iload_n hx hb dX11_copies_16 rfl (lv_at hl 2 rfl) ?_
  refine lv_iload hx hb dX11_copies_17 (lv_at hl 0 rfl) ?_
  refine lv_iadd hx hb dX11_copies_19 ?_
  refine relit (v := 5) (by decide +kernel) ?_
  refine xilo (v := 0) F hP 0 rfl 5 (by decide +kernel) (by decide +kernel) (by decide) (by decide +kernel) dX11_copies_20 ?_
  refine xist (f' := fun _ => 0) F hP hD hS 1 rfl 5 (by decide +kernel) (by decide +kernel) (by decide) (xup0 _) dX11_copies_21 (fun H locs hP hD hS => ?_)
  have hP : va_P g vwCl [(h1, .inl (aC 0, 13, .inl (fun _ => 0))), (h2, .inl (aC 0, 52, .inl (fun _ => 0)))] H := hP
  have hD : va_D A [(h1, .inl (aC 0, 13, .inl (fun _ => 0))), (h2, .inl (aC 0, 52, .inl (fun _ => 0)))] := hD
  refine lv_iinc (v := 6) (lv' := [(4, .int 6), (0, .ref h1), (1, .int 0), (2, .ref h2), (3, .int 0)]) hx hb dX11_copies_22 hl (k := 0) rfl (by decide +kernel) (by decide) rfl (fun ls hl => ?_)
  refine lv_goto (tgt := 3) hx hb dX11_copies_25 (by decide) ?_
  refine lv_iload hx hb dX11_copies_3 (lv_at hl 0 rfl) ?_
  refine lv_bipush (v := 13) hx hb dX11_copies_5 (by decide) ?_
  refine lv_icmp_ge (tgt := 28) hx hb dX11_copies_7 (by decide) (fun c_ => absurd c_ (by decide +kernel)) (fun _ => ?_)
  refine lv_aload_n hx hb dX11_copies_10 rfl (lv_at hl 3 rfl) ?_
  refine lv_iload_n hx hb dX11_copies_11 rfl (lv_at hl 4 rfl) ?_
  refine lv_iload hx hb dX11_copies_12 (lv_at hl 0 rfl) ?_
  refine lv_iadd hx hb dX11_copies_14 ?_
  refine relit (v := 6) (by decide +kernel) ?_
  refine lv_aload_n hx hb dX11_copies_15 rfl (lv_at hl 1 rfl) ?_
  refine lv_iload_n hx hb dX11_copies_16 rfl (lv_at hl 2 rfl) ?_
  refine lv_iload hx hb dX11_copies_17 (lv_at hl 0 rfl) ?_
  refine lv_iadd hx hb dX11_copies_19 ?_
  refine relit (v := 6) (by decide +kernel) ?_
  refine xilo (v := 0) F hP 0 rfl 6 (by decide +kernel) (by decide +kernel) (by decide) (by decide +kernel) dX11_copies_20 ?_
  refine xist (f' := fun _ => 0) F hP hD hS 1 rfl 6 (by decide +kernel) (by decide +kernel) (by decide) (xup0 _) dX11_copies_21 (fun H locs hP hD hS => ?_)
  have hP : va_P g vwCl [(h1, .inl (aC 0, 13, .inl (fun _ => 0))), (h2, .inl (aC 0, 52, .inl (fun _ => 0)))] H := hP
  have hD : va_D A [(h1, .inl (aC 0, 13, .inl (fun _ => 0))), (h2, .inl (aC 0, 52, .inl (fun _ => 0)))] := hD
  refine lv_iinc (v := 7) (lv' := [(4, .int 7), (0, .ref h1), (1, .int 0), (2, .ref h2), (3, .int 0)]) hx hb dX11_copies_22 hl (k := 0) rfl (by decide +kernel) (by decide) rfl (fun ls hl => ?_)
  refine lv_goto (tgt := 3) hx hb dX11_copies_25 (by decide) ?_
  refine lv_iload hx hb dX11_copies_3 (lv_at hl 0 rfl) ?_
  refine lv_bipush (v := 13) hx hb dX11_copies_5 (by decide) ?_
  refine lv_icmp_ge (tgt := 28) hx hb dX11_copies_7 (by decide) (fun c_ => absurd c_ (by decide +kernel)) (fun _ => ?_)
  refine lv_aload_n hx hb dX11_copies_10 rfl (lv_at hl 3 rfl) ?_
  refine lv_iload_n hx hb dX11_copies_11 rfl (lv_at hl 4 rfl) ?_
  refine lv_iload hx hb dX11_copies_12 (lv_at hl 0 rfl) ?_
  refine lv_iadd hx hb dX11_copies_14 ?_
  refine relit (v := 7) (by decide +kernel) ?_
  refine lv_aload_n hx hb dX11_copies_15 rfl (lv_at hl 1 rfl) ?_
  refine lv_iload_n hx hb dX11_copies_16 rfl (lv_at hl 2 rfl) ?_
  refine lv_iload hx hb dX11_copies_17 (lv_at hl 0 rfl) ?_
  refine lv_iadd hx hb dX11_copies_19 ?_
  refine relit (v := 7) (by decide +kernel) ?_
  refine xilo (v := 0) F hP 0 rfl 7 (by decide +kernel) (by decide +kernel) (by decide) (by decide +kernel) dX11_copies_20 ?_
  refine xist (f' := fun _ => 0) F hP hD hS 1 rfl 7 (by decide +kernel) (by decide +kernel) (by decide) (xup0 _) dX11_copies_21 (fun H locs hP hD hS => ?_)
  have hP : va_P g vwCl [(h1, .inl (aC 0, 13, .inl (fun _ => 0))), (h2, .inl (aC 0, 52, .inl (fun _ => 0)))] H := hP
  have hD : va_D A [(h1, .inl (aC 0, 13, .inl (fun _ => 0))), (h2, .inl (aC 0, 52, .inl (fun _ => 0)))] := hD
  refine lv_iinc (v := 8) (lv' := [(4, .int 8), (0, .ref h1), (1, .int 0), (2, .ref h2), (3, .int 0)]) hx hb dX11_copies_22 hl (k := 0) rfl (by decide +kernel) (by decide) rfl (fun ls hl => ?_)
  refine lv_goto (tgt := 3) hx hb dX11_copies_25 (by decide) ?_
  refine lv_iload hx hb dX11_copies_3 (lv_at hl 0 rfl) ?_
  refine lv_bipush (v := 13) hx hb dX11_copies_5 (by decide) ?_
  refine lv_icmp_ge (tgt := 28) hx hb dX11_copies_7 (by decide) (fun c_ => absurd c_ (by decide +kernel)) (fun _ => ?_)
  refine lv_aload_n hx hb dX11_copies_10 rfl (lv_at hl 3 rfl) ?_
  refine lv_iload_n hx hb dX11_copies_11 rfl (lv_at hl 4 rfl) ?_
  refine lv_iload hx hb dX11_copies_12 (lv_at hl 0 rfl) ?_
  refine lv_iadd hx hb dX11_copies_14 ?_
  refine relit (v := 8) (by decide +kernel) ?_
  refine lv_aload_n hx hb dX11_copies_15 rfl (lv_at hl 1 rfl) ?_
  refine lv_iload_n hx hb dX11_copies_16 rfl (lv_at hl 2 rfl) ?_
  refine lv_iload hx hb dX11_copies_17 (lv_at hl 0 rfl) ?_
  refine lv_iadd hx hb dX11_copies_19 ?_
  refine relit (v := 8) (by decide +kernel) ?_
  refine xilo (v := 0) F hP 0 rfl 8 (by decide +kernel) (by decide +kernel) (by decide) (by decide +kernel) dX11_copies_20 ?_
  refine xist (f' := fun _ => 0) F hP hD hS 1 rfl 8 (by decide +kernel) (by decide +kernel) (by decide) (xup0 _) dX11_copies_21 (fun H locs hP hD hS => ?_)
  have hP : va_P g vwCl [(h1, .inl (aC 0, 13, .inl (fun _ => 0))), (h2, .inl (aC 0, 52, .inl (fun _ => 0)))] H := hP
  have hD : va_D A [(h1, .inl (aC 0, 13, .inl (fun _ => 0))), (h2, .inl (aC 0, 52, .inl (fun _ => 0)))] := hD
  refine lv_iinc (v := 9) (lv' := [(4, .int 9), (0, .ref h1), (1, .int 0), (2, .ref h2), (3, .int 0)]) hx hb dX11_copies_22 hl (k := 0) rfl (by decide +kernel) (by decide) rfl (fun ls hl => ?_)
  refine lv_goto (tgt := 3) hx hb dX11_copies_25 (by decide) ?_
  refine lv_iload hx hb dX11_copies_3 (lv_at hl 0 rfl) ?_
  refine lv_bipush (v := 13) hx hb dX11_copies_5 (by decide) ?_
  refine lv_icmp_ge (tgt := 28) hx hb dX11_copies_7 (by decide) (fun c_ => absurd c_ (by decide +kernel)) (fun _ => ?_)
  refine lv_aload_n hx hb dX11_copies_10 rfl (lv_at hl 3 rfl) ?_
  refine lv_iload_n hx hb dX11_copies_11 rfl (lv_at hl 4 rfl) ?_
  refine lv_iload hx hb dX11_copies_12 (lv_at hl 0 rfl) ?_
  refine lv_iadd hx hb dX11_copies_14 ?_
  refine relit (v := 9) (by decide +kernel) ?_
  refine lv_aload_n hx hb dX11_copies_15 rfl (lv_at hl 1 rfl) ?_
  refine lv_iload_n hx hb dX11_copies_16 rfl (lv_at hl 2 rfl) ?_
  refine lv_iload hx hb dX11_copies_17 (lv_at hl 0 rfl) ?_
  refine lv_iadd hx hb dX11_copies_19 ?_
  refine relit (v := 9) (by decide +kernel) ?_
  refine xilo (v := 0) F hP 0 rfl 9 (by decide +kernel) (by decide +kernel) (by decide) (by decide +kernel) dX11_copies_20 ?_
  refine xist (f' := fun _ => 0) F hP hD hS 1 rfl 9 (by decide +kernel) (by decide +kernel) (by decide) (xup0 _) dX11_copies_21 (fun H locs hP hD hS => ?_)
  have hP : va_P g vwCl [(h1, .inl (aC 0, 13, .inl (fun _ => 0))), (h2, .inl (aC 0, 52, .inl (fun _ => 0)))] H := hP
  have hD : va_D A [(h1, .inl (aC 0, 13, .inl (fun _ => 0))), (h2, .inl (aC 0, 52, .inl (fun _ => 0)))] := hD
  refine lv_iinc (v := 10) (lv' := [(4, .int 10), (0, .ref h1), (1, .int 0), (2, .ref h2), (3, .int 0)]) hx hb dX11_copies_22 hl (k := 0) rfl (by decide +kernel) (by decide) rfl (fun ls hl => ?_)
  refine lv_goto (tgt := 3) hx hb dX11_copies_25 (by decide) ?_
  refine lv_iload hx hb dX11_copies_3 (lv_at hl 0 rfl) ?_
  refine lv_bipush (v := 13) hx hb dX11_copies_5 (by decide) ?_
  refine lv_icmp_ge (tgt := 28) hx hb dX11_copies_7 (by decide) (fun c_ => absurd c_ (by decide +kernel)) (fun _ => ?_)
  refine lv_aload_n hx hb dX11_copies_10 rfl (lv_at hl 3 rfl) ?_
  refine lv_iload_n hx hb dX11_copies_11 rfl (lv_at hl 4 rfl) ?_
  refine lv_iload hx hb dX11_copies_12 (lv_at hl 0 rfl) ?_
  refine lv_iadd hx hb dX11_copies_14 ?_
  refine relit (v := 10) (by decide +kernel) ?_
  refine lv_aload_n hx hb dX11_copies_15 rfl (lv_at hl 1 rfl) ?_
  refine lv_iload_n hx hb dX11_copies_16 rfl (lv_at hl 2 rfl) ?_
  refine lv_iload hx hb dX11_copies_17 (lv_at hl 0 rfl) ?_
  refine lv_iadd hx hb dX11_copies_19 ?_
  refine relit (v := 10) (by decide +kernel) ?_
  refine xilo (v := 0) F hP 0 rfl 10 (by decide +kernel) (by decide +kernel) (by decide) (by decide +kernel) dX11_copies_20 ?_
  refine xist (f' := fun _ => 0) F hP hD hS 1 rfl 10 (by decide +kernel) (by decide +kernel) (by decide) (xup0 _) dX11_copies_21 (fun H locs hP hD hS => ?_)
  have hP : va_P g vwCl [(h1, .inl (aC 0, 13, .inl (fun _ => 0))), (h2, .inl (aC 0, 52, .inl (fun _ => 0)))] H := hP
  have hD : va_D A [(h1, .inl (aC 0, 13, .inl (fun _ => 0))), (h2, .inl (aC 0, 52, .inl (fun _ => 0)))] := hD
  refine lv_iinc (v := 11) (lv' := [(4, .int 11), (0, .ref h1), (1, .int 0), (2, .ref h2), (3, .int 0)]) hx hb dX11_copies_22 hl (k := 0) rfl (by decide +kernel) (by decide) rfl (fun ls hl => ?_)
  refine lv_goto (tgt := 3) hx hb dX11_copies_25 (by decide) ?_
  refine lv_iload hx hb dX11_copies_3 (lv_at hl 0 rfl) ?_
  refine lv_bipush (v := 13) hx hb dX11_copies_5 (by decide) ?_
  refine lv_icmp_ge (tgt := 28) hx hb dX11_copies_7 (by decide) (fun c_ => absurd c_ (by decide +kernel)) (fun _ => ?_)
  refine lv_aload_n hx hb dX11_copies_10 rfl (lv_at hl 3 rfl) ?_
  refine lv_iload_n hx hb dX11_copies_11 rfl (lv_at hl 4 rfl) ?_
  refine lv_iload hx hb dX11_copies_12 (lv_at hl 0 rfl) ?_
  refine lv_iadd hx hb dX11_copies_14 ?_
  refine relit (v := 11) (by decide +kernel) ?_
  refine lv_aload_n hx hb dX11_copies_15 rfl (lv_at hl 1 rfl) ?_
  refine lv_iload_n hx hb dX11_copies_16 rfl (lv_at hl 2 rfl) ?_
  refine lv_iload hx hb dX11_copies_17 (lv_at hl 0 rfl) ?_
  refine lv_iadd hx hb dX11_copies_19 ?_
  refine relit (v := 11) (by decide +kernel) ?_
  refine xilo (v := 0) F hP 0 rfl 11 (by decide +kernel) (by decide +kernel) (by decide) (by decide +kernel) dX11_copies_20 ?_
  refine xist (f' := fun _ => 0) F hP hD hS 1 rfl 11 (by decide +kernel) (by decide +kernel) (by decide) (xup0 _) dX11_copies_21 (fun H locs hP hD hS => ?_)
  have hP : va_P g vwCl [(h1, .inl (aC 0, 13, .inl (fun _ => 0))), (h2, .inl (aC 0, 52, .inl (fun _ => 0)))] H := hP
  have hD : va_D A [(h1, .inl (aC 0, 13, .inl (fun _ => 0))), (h2, .inl (aC 0, 52, .inl (fun _ => 0)))] := hD
  refine lv_iinc (v := 12) (lv' := [(4, .int 12), (0, .ref h1), (1, .int 0), (2, .ref h2), (3, .int 0)]) hx hb dX11_copies_22 hl (k := 0) rfl (by decide +kernel) (by decide) rfl (fun ls hl => ?_)
  refine lv_goto (tgt := 3) hx hb dX11_copies_25 (by decide) ?_
  refine lv_iload hx hb dX11_copies_3 (lv_at hl 0 rfl) ?_
  refine lv_bipush (v := 13) hx hb dX11_copies_5 (by decide) ?_
  refine lv_icmp_ge (tgt := 28) hx hb dX11_copies_7 (by decide) (fun c_ => absurd c_ (by decide +kernel)) (fun _ => ?_)
  refine lv_aload_n hx hb dX11_copies_10 rfl (lv_at hl 3 rfl) ?_
  refine lv_iload_n hx hb dX11_copies_11 rfl (lv_at hl 4 rfl) ?_
  refine lv_iload hx hb dX11_copies_12 (lv_at hl 0 rfl) ?_
  refine lv_iadd hx hb dX11_copies_14 ?_
  refine relit (v := 12) (by decide +kernel) ?_
  refine lv_aload_n hx hb dX11_copies_15 rfl (lv_at hl 1 rfl) ?_
  refine lv_iload_n hx hb dX11_copies_16 rfl (lv_at hl 2 rfl) ?_
  refine lv_iload hx hb dX11_copies_17 (lv_at hl 0 rfl) ?_
  refine lv_iadd hx hb dX11_copies_19 ?_
  refine relit (v := 12) (by decide +kernel) ?_
  refine xilo (v := 0) F hP 0 rfl 12 (by decide +kernel) (by decide +kernel) (by decide) (by decide +kernel) dX11_copies_20 ?_
  refine xist (f' := fun _ => 0) F hP hD hS 1 rfl 12 (by decide +kernel) (by decide +kernel) (by decide) (xup0 _) dX11_copies_21 (fun H locs hP hD hS => ?_)
  have hP : va_P g vwCl [(h1, .inl (aC 0, 13, .inl (fun _ => 0))), (h2, .inl (aC 0, 52, .inl (fun _ => 0)))] H := hP
  have hD : va_D A [(h1, .inl (aC 0, 13, .inl (fun _ => 0))), (h2, .inl (aC 0, 52, .inl (fun _ => 0)))] := hD
  refine lv_iinc (v := 13) (lv' := [(4, .int 13), (0, .ref h1), (1, .int 0), (2, .ref h2), (3, .int 0)]) hx hb dX11_copies_22 hl (k := 0) rfl (by decide +kernel) (by decide) rfl (fun ls hl => ?_)
  refine lv_goto (tgt := 3) hx hb dX11_copies_25 (by decide) ?_
  refine lv_iload hx hb dX11_copies_3 (lv_at hl 0 rfl) ?_
  refine lv_bipush (v := 13) hx hb dX11_copies_5 (by decide) ?_
  refine lv_icmp_ge (tgt := 28) hx hb dX11_copies_7 (by decide) (fun _ => ?_) (fun c_ => absurd (by decide +kernel) c_)
  have hP9 := hP.sub (ws' := [(h1, .inl (aC 0, 13, .inl (fun _ => 0))), (h2, .inl (aC 0, 52, .inl (fun _ => 0)))]) [0, 1] rfl
  have hD9 := hD.sub (ws' := [(h1, .inl (aC 0, 13, .inl (fun _ => 0))), (h2, .inl (aC 0, 52, .inl (fun _ => 0)))]) [0, 1] (by decide) rfl
  exact rV () hx hb hr hlk hS trivial hP9 hD9 (Nat.le_of_ble_eq_true rfl) (Nat.le_of_ble_eq_true rfl) dX11_copies_28

theorem dX11_mark_119 : decode cX11_mark 119 = .ok (.iconst 1, 1) := by decide +kernel
theorem dX11_mark_120 : decode cX11_mark 120 = .ok (.ireturn, 1) := by decide +kernel
set_option maxHeartbeats 4000000 in
set_option maxRecDepth 100000 in
theorem a_X11_copies_5 (l : Launch) (g : va_G) (aC : Nat → ClassId) (aM : Nat → Nat) (h1 h2 : Nat) : Ct l g aC aM yX11_copies cX11_copies 5 none 1 [.ref h1, .int 0, .ref h2, .int 13] [(h1, .inl (aC 0, 13, .inl (fun _ => 0))), (h2, .inl (aC 0, 52, .inl (fun _ => 0)))] (QV g (fun (_ : Unit) => True) (fun (_ : Unit) => [(h1, .inl (aC 0, 13, .inl (fun _ => 0))), (h2, .inl (aC 0, 52, .inl (fun _ => 0)))])) 0 0 := by
  refine Ct.mk (by decide) (Nat.le_of_ble_eq_true rfl) ?_
  intro p e s m below meth c A ls hx hb hml hown hts hr hlk hnm hK hA hM hM2 hP hD hS hl
  have hown : s.vm.findClass RX11 = some m.cls := hown
  have F : Fx p s m _ c cX11_copies 5 RX11 g aC aM A := ⟨hx, hb, hml, hown, hts, hK, hA, hM, hM2⟩
  have hl : lv_has ls 5 [(0, .ref h1), (1, .int 0), (2, .ref h2), (3, .int 13)] := hl
  refine lv_iconst (v := 0) hx hb dX11_copies_0 (by decide) ?_
  refine lv_istore (lv' := [(4, .int 0), (0, .ref h1), (1, .int 0), (2, .ref h2), (3, .int 13)]) hx hb dX11_copies_1 hl (by decide) rfl (fun ls hl => ?_)
  refine lv_iload hx hb dX11_copies_3 (lv_at hl 0 rfl) ?_
  refine lv_bipush (v := 13) hx hb dX11_copies_5 (by decide) ?_
  refine lv_icmp_ge (tgt := 28) hx hb dX11_copies_7 (by decide) (fun c_ => absurd c_ (by decide +kernel)) (fun _ => ?_)
  refine lv_aload_n hx hb dX11_copies_10 rfl (lv_at hl 3 rfl) ?_
  refine lv_iload_n hx hb dX11_copies_11 rfl (lv_at hl 4 rfl) ?_
  refine lv_iload hx hb dX11_copies_12 (lv_at hl 0 rfl) ?_
  refine lv_iadd hx hb dX11_copies_14 ?_
  refine relit (v := 13) (by decide +kernel) ?_
  refine lv_aload_n hx hb dX11_copies_15 rfl (lv_at hl 1 rfl) ?_
  refine lv_iload_n hx hb dX11_copies_16 rfl (lv_at hl 2 rfl) ?_
  refine lv_iload hx hb dX11_copies_17 (lv_at hl 0 rfl) ?_
  refine lv_iadd hx hb dX11_copies_19 ?_
  refine relit (v := 0) (by decide +kernel) ?_
  refine xilo (v := 0) F hP 0 rfl 0 (by decide +kernel) (by decide +kernel) (by decide) (by decide +kernel) dX11_copies_20 ?_
  refine xist (f' := fun _ => 0) F hP hD hS 1 rfl 13 (by decide +kernel) (by decide +kernel) (by decide) (xup0 _) dX11_copies_21 (fun H locs hP hD hS => ?_)
  have hP : va_P g vwCl [(h1, .inl (aC 0, 13, .inl (fun _ => 0))), (h2, .inl (aC 0, 52, .inl (fun _ => 0)))] H := hP
  have hD : va_D A [(h1, .inl (aC 0, 13, .inl (fun _ => 0))), (h2, .inl (aC 0, 52, .inl (fun _ => 0)))] := hD
  refine lv_iinc (v := 1) (lv' := [(4, .int 1), (0, .ref h1), (1, .int 0), (2, .ref h2), (3, .int 13)]) hx hb dX11_copies_22 hl (k := 0) rfl (by decide +kernel) (by decide) rfl (fun ls hl => ?_)
  refine lv_goto (tgt := 3) hx hb dX11_copies_25 (by decide) ?_
  refine lv_iload hx hb dX11_copies_3 (lv_at hl 0 rfl) ?_
  refine lv_bipush (v := 13) hx hb dX11_copies_5 (by decide) ?_
  refine lv_icmp_ge (tgt := 28) hx hb dX11_copies_7 (by decide) (fun c_ => absurd c_ (by decide +kernel)) (fun _ => ?_)
  refine lv_aload_n hx hb dX11_copies_10 rfl (lv_at hl 3 rfl) ?_
  refine lv_iload_n hx hb dX11_copies_11 rfl (lv_at hl 4 rfl) ?_
  refine lv_iload hx hb dX11_copies_12 (lv_at hl 0 rfl) ?_
  refine lv_iadd hx hb dX11_copies_14 ?_
  refine relit (v := 14) (by decide +kernel) ?_
  refine lv_aload_n hx hb dX11_copies_15 rfl (lv_at hl 1 rfl) ?_
  refine lv_iload_n hx hb dX11_copies_16 rfl (lv_at hl 2 rfl) ?_
  refine lv_iload hx hb dX11_copies_17 (lv_at hl 0 rfl) ?_
  refine lv_iadd hx hb dX11_copies_19 ?_
  refine relit (v := 1) (by decide +kernel) ?_
  refine xilo (v := 0) F hP 0 rfl 1 (by decide +kernel) (by decide +kernel) (by decide) (by decide +kernel) dX11_copies_20 ?_
  refine xist (f' := fun _ => 0) F hP hD hS 1 rfl 14 (by decide +kernel) (by decide +kernel) (by decide) (xup0 _) dX11_copies_21 (fun H locs hP hD hS => ?_)
  have hP : va_P g vwCl [(h1, .inl (aC 0, 13, .inl (fun _ => 0))), (h2, .inl (aC 0, 52, .inl (fun _ => 0)))] H := hP
  have hD : va_D A [(h1, .inl (aC 0, 13, .inl (fun _ => 0))), (h2, .inl (aC 0, 52, .inl (fun _ => 0)))] := hD
  refine lv_iinc (v := 2) (lv' := [(4, .int 2), (0, .ref h1), (1, .int 0), (2, .ref h2), (3, .int 13)]) hx hb dX11_copies_22 hl (k := 0) rfl (by decide +kernel) (by decide) rfl (fun ls hl => ?_)
  refine lv_goto (tgt := 3) hx hb dX11_copies_25 (by decide) ?_
  refine lv_iload hx hb dX11_copies_3 (lv_at hl 0 rfl) ?_
  refine lv_bipush (v := 13) hx hb dX11_copies_5 (by decide) ?_
  refine lv_icmp_ge (tgt := 28) hx hb dX11_copies_7 (by decide) (fun c_ => absurd c_ (by decide +kernel)) (fun _ => ?_)
  refine lv_aload_n hx hb dX11_copies_10 rfl (lv_at hl 3 rfl) ?_
  refine lv_iload_n hx hb dX11_copies_11 rfl (lv_at hl 4 rfl) ?_
  refine lv_iload hx hb dX11_copies_12 (lv_at hl 0 rfl) ?_
  refine lv_iadd hx hb dX11_copies_14 ?_
  refine relit (v := 15) (by decide +kernel) ?_
  refine lv_aload_n hx hb dX11_copies_15 rfl (lv_at hl 1 rfl) ?_
  refine lv_iload_n hx hb dX11_copies_16 rfl (lv_at hl 2 rfl) ?_
  refine lv_iload hx hb dX11_copies_17 (lv_at hl 0 rfl) ?_
  refine lv_iadd hx hb dX11_copies_19 ?_
  refine relit (v := 2) (by decide +kernel) ?_
  refine xilo (v := 0) F hP 0 rfl 2 (by decide +kernel) (by decide +kernel) (by decide) (by decide +kernel) dX11_copies_20 ?_
  refine xist (f' := fun _ => 0) F hP hD hS 1 rfl 15 (by decide +kernel) (by decide +kernel) (by decide) (xup0 _) dX11_copies_21 (fun H locs hP hD hS => ?_)
  have hP : va_P g vwCl [(h1, .inl (aC 0, 13, .inl (fun _ => 0))), (h2, .inl (aC 0, 52, .inl (fun _ => 0)))] H := hP
  have hD : va_D A [(h1, .inl (aC 0, 13, .inl (fun _ => 0))), (h2, .inl (aC 0, 52, .inl (fun _ => 0)))] := hD
  refine lv_iinc (v := 3) (lv' := [(4, .int 3), (0, .ref h1), (1, .int 0), (2, .ref h2), (3, .int 13)]) hx hb dX11_copies_22 hl (k := 0) rfl (by decide +kernel) (by decide) rfl (fun ls hl => ?_)
  refine lv_goto (tgt := 3) hx hb dX11_copies_25 (by decide) ?_
  refine lv_iload hx hb dX11_copies_3 (lv_at hl 0 rfl) ?_
  refine lv_bipush (v := 13) hx hb dX11_copies_5 (by decide) ?_
  refine lv_icmp_ge (tgt := 28) hx hb dX11_copies_7 (by decide) (fun c_ => absurd c_ (by decide +kernel)) (fun _ => ?_)
  refine lv_aload_n hx hb dX11_copies_10 rfl (lv_at hl 3 rfl) ?_
  refine lv_iload_n hx hb dX11_copies_11 rfl (lv_at hl 4 rfl) ?_
  refine lv_iload hx hb dX11_copies_12 (lv_at hl 0 rfl) ?_
  refine lv_iadd hx hb dX11_copies_14 ?_
  refine relit (v := 16) (by decide +kernel) ?_
  refine lv_aload_n hx hb dX11_copies_15 rfl (lv_at hl 1 rfl) ?_
  refine lv_iload_n hx hb dX11_copies_16 rfl (lv_at hl 2 rfl) ?_
  refine lv_iload hx hb dX11_copies_17 (lv_at hl 0 rfl) ?_
  refine lv_iadd hx hb dX11_copies_19 ?_
  refine relit (v := 3) (by decide +kernel) ?_
  refine xilo (v := 0) F hP 0 rfl 3 (by decide +kernel) (by decide +kernel) (by decide) (by decide +kernel) dX11_copies_20 ?_
  refine xist (f' := fun _ => 0) F hP hD hS 1 rfl 16 (by decide +kernel) (by decide +kernel) (by decide) (xup0 _) dX11_copies_21 (fun H locs hP hD hS => ?_)
  have hP : va_P g vwCl [(h1, .inl (aC 0, 13, .inl (fun _ => 0))), (h2, .inl (aC 0, 52, .inl (fun _ => 0)))] H := hP
  have hD : va_D A [(h1, .inl (aC 0, 13, .inl (fun _ => 0))), (h2, .inl (aC 0, 52, .inl (fun _ => 0)))] := hD
  refine lv_iinc (v := 4) (lv' := [(4, .int 4), (0, .ref h1), (1, .int 0), (2, .ref h2), (3, .int 13)]) hx hb dX11_copies_22 hl (k := 0) rfl (by decide +kernel) (by decide) rfl (fun ls hl => ?_)
  refine lv_goto (tgt := 3) hx hb dX11_copies_25 (by decide) ?_
  refine lv_iload hx hb dX11_copies_3 (lv_at hl 0 rfl) ?_
  refine lv_bipush (v := 13) hx hb dX11_copies_5 (by decide) ?_
  refine lv_icmp_ge (tgt := 28) hx hb dX11_copies_7 (by decide) (fun c_ => absurd c_ (by decide +kernel)) (fun _ => ?_)
  refine lv_aload_n hx hb dX11_copies_10 rfl (lv_at hl 3 rfl) ?_
  refine lv_iload_n hx hb dX11_copies_11 rfl (lv_at hl 4 rfl) ?_
  refine lv_iload hx hb dX11_copies_12 (lv_at hl 0 rfl) ?_
  refine lv_iadd hx hb dX11_copies_14 ?_
  refine relit (v := 17) (by decide +kernel) ?_
  refine lv_aload_n hx hb dX11_copies_15 rfl (lv_at hl 1 rfl) ?_
  refine lv_iload_n hx hb dX11_copies_16 rfl (lv_at hl 2 rfl) ?_
  refine lv_iload hx hb dX11_copies_17 (lv_at hl 0 rfl) ?_
  refine lv_iadd hx hb dX11_copies_19 ?_
  refine relit (v := 4) (by decide +kernel) ?_
  refine xilo (v := 0) F hP 0 rfl 4 (by decide +kernel) (by decide +kernel) (by decide) (by decide +kernel) dX11_copies_20 ?_
  refine xist (f' := fun _ => 0) F hP hD hS 1 rfl 17 (by decide +kernel) (by decide +kernel) (by decide) (xup0 _) dX11_copies_21 (fun H locs hP hD hS => ?_)
  have hP : va_P g vwCl [(h1, .inl (aC 0, 13, .inl (fun _ => 0))), (h2, .inl (aC 0, 52, .inl (fun _ => 0)))] H := hP
  have hD : va_D A [(h1, .inl (aC 0, 13, .inl (fun _ => 0))), (h2, .inl (aC 0, 52, .inl (fun _ => 0)))] := hD
  refine lv_iinc (v := 5) (lv' := [(4, .int 5), (0, .ref h1), (1, .int 0), (2, .ref h2), (3, .int 13)]) hx hb dX11_copies_22 hl (k := 0) rfl (by decide +kernel) (by decide) rfl (fun ls hl => ?_)
  refine lv_goto (tgt := 3) hx hb dX11_copies_25 (by decide) ?_
  refine lv_iload hx hb dX11_copies_3 (lv_at hl 0 rfl) ?_
  refine lv_bipush (v := 13) hx hb dX11_copies_5 (by decide) ?_
  refine lv_icmp_ge (tgt := 28) hx hb dX11_copies_7 (by decide) (fun c_ => absurd c_ (by decide +kernel)) (fun _ => ?_)
  refine lv_aload_n hx hb dX11_copies_10 rfl (lv_at hl 3 rfl) ?_
  refine lv_iload_n hx hb dX11_copies_11 rfl (lv_at hl 4 rfl) ?_
  refine lv_iload hx hb dX11_copies_12 (lv_at hl 0 rfl) ?_
  refine lv_iadd hx hb dX11_copies_14 ?_
  refine relit (v := 18) (by decide +kernel) ?_
  refine lv_aload_n hx hb dX11_copies_15 rfl (lv_at hl 1 rfl) ?_
  refine lv_iload_n hx hb dX11_copies_16 rfl (lv_at hl 2 rfl) ?_
  refine lv_iload hx hb dX11_copies_17 (lv_at hl 0 rfl) ?_
  refine lv_iadd hx hb dX11_copies_19 ?_
  refine relit (v := 5) (by decide +kernel) ?_
  refine xilo (v := 0) F hP 0 rfl 5 (by decide +kernel) (by decide +kernel) (by decide) (by decide +kernel) dX11_copies_20 ?_
  refine xist (f' := fun _ => 0) F hP hD hS 1 rfl 18 (by decide +kernel) (by decide +kernel) (by decide) (xup0 _) dX11_copies_21 (fun H locs hP hD hS => ?_)
  have hP : va_P g vwCl [(h1, .inl (aC 0, 13, .inl (fun _ => 0))), (h2, .inl (aC 0, 52, .inl (fun _ => 0)))] H := hP
  have hD : va_D A [(h1, .inl (aC 0, 13, .inl (fun _ => 0))), (h2, .inl (aC 0, 52, .inl (fun _ => 0)))] := hD
  refine lv_iinc (v := 6) (lv' := [(4, .int 6), (0, .ref h1), (1, .int 0), (2, .ref h2), (3, .int 13)]) hx hb dX11_copies_22 hl (k := 0) rfl (by decide +kernel) (by decide) rfl (fun ls hl => ?_)
  refine lv_goto (tgt := 3) hx hb dX11_copies_25 (by decide) ?_
  refine lv_iload hx hb dX11_copies_3 (lv_at hl 0 rfl) ?_
  refine lv_bipush (v := 13) hx hb dX11_copies_5 (by decide) ?_
  refine lv_icmp_ge (tgt := 28) hx hb dX11_copies_7 (by decide) (fun c_ => absurd c_ (by decide +kernel)) (fun _ => ?_)
  refine lv_aload_n hx hb dX11_copies_10 rfl (lv_at hl 3 rfl) ?_
  refine lv_iload_n hx hb dX11_copies_11 rfl (lv_at hl 4 rfl) ?_
  refine lv_iload hx hb dX11_copies_12 (lv_at hl 0 rfl) ?_
  refine lv_iadd hx hb dX11_copies_14 ?_
  refine relit (v := 19) (by decide +kernel) ?_
  refine lv_aload_n hx hb dX11_copies_15 rfl (lv_at hl 1 rfl) ?_
  refine lv_iload_n hx hb dX11_copies_16 rfl (lv_at hl 2 rfl) ?_
  refine lv_iload hx hb dX11_copies_17 (lv_at hl 0 rfl) ?_
  refine lv_iadd hx hb dX11_copies_19 ?_
  refine relit (v := 6) (by decide +kernel) ?_
  refine xilo (v := 0) F hP 0 rfl 6 (by decide +kernel) (by decide +kernel) (by decide) (by decide +kernel) dX11_copies_20 ?_
  refine xist (f' := fun _ => 0) F hP hD hS 1 rfl 19 (by decide +kernel) (by decide +kernel) (by decide) (xup0 _) dX11_copies_21 (fun H locs hP hD hS => ?_)
  have hP : va_P g vwCl [(h1, .inl (aC 0, 13, .inl (fun _ => 0))), (h2, .inl (aC 0, 52, .inl (fun _ => 0)))] H := hP
  have hD : va_D A [(h1, .inl (aC 0, 13, .inl (fun _ => 0))), (h2, .inl (aC 0, 52, .inl (fun _ => 0)))] := hD
  refine lv_iinc (v := 7) (lv' := [(4, .int 7), (0, .ref h1), (1, .int 0), (2, .ref h2), (3, .int 13)]) hx hb dX11_copies_22 hl (k := 0) rfl (by decide +kernel) (by decide) rfl (fun ls hl => ?_)
  refine lv_goto (tgt := 3) hx hb dX11_copies_25 (by decide) ?_
  refine lv_iload hx hb dX11_copies_3 (lv_at hl 0 rfl) ?_
  refine lv_bipush (v := 13) hx hb dX11_copies_5 (by decide) ?_
  refine lv_icmp_ge (tgt := 28) hx hb dX11_copies_7 (by decide) (fun c_ => absurd c_ (by decide +kernel)) (fun _ => ?_)
  refine lv_aload_n hx hb dX11_copies_10 rfl (lv_at hl 3 rfl) ?_
  refine lv_iload_n hx hb dX11_copies_11 rfl (lv_at hl 4 rfl) ?_
  refine lv_iload hx hb dX11_copies_12 (lv_at hl 0 rfl) ?_
  refine lv_iadd hx hb dX11_copies_14 ?_
  refine relit (v := 20) (by decide +kernel) ?_
  refine lv_aload_n hx hb dX11_copies_15 rfl (lv_at hl 1 rfl) ?_
  refine lv_iload_n hx hb dX11_copies_16 rfl (lv_at hl 2 rfl) ?_
  refine lv_iload hx hb dX11_copies_17 (lv_at hl 0 rfl) ?_
  refine lv_iadd hx hb dX11_copies_19 ?_
  refine relit (v := 7) (by decide +kernel) ?_
  refine xilo (v := 0) F hP 0 rfl 7 (by decide +kernel) (by decide +kernel) (by decide) (by decide +kernel) dX11_copies_20 ?_
  refine xist (f' := fun _ => 0) F hP hD hS 1 rfl 20 (by decide +kernel) (by decide +kernel) (by decide) (xup0 _) dX11_copies_21 (fun H locs hP hD hS => ?_)
  have hP : va_P g vwCl [(h1, .inl (aC 0, 13, .inl (fun _ => 0))), (h2, .inl (aC 0, 52, .inl (fun _ => 0)))] H := hP
  have hD : va_D A [(h1, .inl (aC 0, 13, .inl (fun _ => 0))), (h2, .inl (aC 0, 52, .inl (fun _ => 0)))] := hD
  refine lv_iinc (v := 8) (lv' := [(4, .int 8), (0, .ref h1), (1, .int 0), (2, .ref h2), (3, .int 13)]) hx hb dX11_copies_22 hl (k := 0) rfl (by decide +kernel) (by decide) rfl (fun ls hl => ?_)
  refine lv_goto (tgt := 3) hx hb dX11_copies_25 (by decide) ?_
  refine lv_iload hx hb dX11_copies_3 (lv_at hl 0 rfl) ?_
  refine lv_bipush (v := 13) hx hb dX11_copies_5 (by decide) ?_
  refine lv_icmp_ge (tgt := 28) hx hb dX11_copies_7 (by decide) (fun c_ => absurd c_ (by decide +kernel)) (fun _ => ?_)
  refine lv_aload_n hx hb dX11_copies_10 rfl (lv_at hl 3 rfl) ?_
  refine lv_iload_n hx hb dX11_copies_11 rfl (lv_at hl 4 rfl) ?_
  refine lv_iload hx hb dX11_copies_12 (lv_at hl 0 rfl) ?_
  refine lv_iadd hx hb dX11_copies_14 ?_
  refine relit (v := 21) (by decide +kernel) ?_
  refine lv_aload_n hx hb dX11_copies_15 rfl (lv_at hl 1 rfl) ?_
  refine lv_iload_n hx hb dX11_copies_16 rfl (lv_at hl 2 rfl) ?_
  refine lv_iload hx hb dX11_copies_17 (lv_at hl 0 rfl) ?_
  refine lv_iadd hx hb dX11_copies_19 ?_
  refine relit (v := 8) (by decide +kernel) ?_
  refine xilo (v := 0) F hP 0 rfl 8 (by decide +kernel) (by decide +kernel) (by decide) (by decide +kernel) dX11_copies_20 ?_
  refine xist (f' := fun _ => 0) F hP hD hS 1 rfl 21 (by decide +kernel) (by decide +kernel) (by decide) (xup0 _) dX11_copies_21 (fun H locs hP hD hS => ?_)
  have hP : va_P g vwCl [(h1, .inl (aC 0, 13, .inl (fun _ => 0))), (h2, .inl (aC 0, 52, .inl (fun _ => 0)))] H := hP
  have hD : va_D A [(h1, .inl (aC 0, 13, .inl (fun _ => 0))), (h2, .inl (aC 0, 52, .inl (fun _ => 0)))] := hD
  refine lv_iinc (v := 9) (lv' := [(4, .int 9), (0, .ref h1), (1, .int 0), (2, .ref h2), (3, .int 13)]) hx hb dX11_copies_22 hl (k := 0) rfl (by decide +kernel) (by decide) rfl (fun ls hl => ?_)
  refine lv_goto (tgt := 3) hx hb dX11_copies_25 (by decide) ?_
  refine lv_iload hx hb dX11_copies_3 (lv_at hl 0 rfl) ?_
  refine lv_bipush (v := 13) hx hb dX11_copies_5 (by decide) ?_
  refine lv_icmp_ge (tgt := 28) hx hb dX11_copies_7 (by decide) (fun c_ => absurd c_ (by decide +kernel)) (fun _ => ?_)
  refine lv_aload_n hx hb dX11_copies_10 rfl (lv_at hl 3 rfl) ?_
  refine lv_iload_n hx hb dX11_copies_11 rfl (lv_at hl 4 rfl) ?_
  refine lv_iload hx hb dX11_copies_12 (lv_at hl 0 rfl) ?_
  refine lv_iadd hx hb dX11_copies_14 ?_
  refine relit (v := 22) (by decide +kernel) ?_
  refine lv_aload_n hx hb dX11_copies_15 rfl (lv_at hl 1 rfl) ?_
  refine lv_iload_n hx hb dX11_copies_16 rfl (lv_at hl 2 rfl) ?_
  refine lv_iload hx hb dX11_copies_17 (lv_at hl 0 rfl) ?_
  refine lv_iadd hx hb dX11_copies_19 ?_
  refine relit (v := 9) (by decide +kernel) ?_
  refine xilo (v := 0) F hP 0 rfl 9 (by decide +kernel) (by decide +kernel) (by decide) (by decide +kernel) dX11_copies_20 ?_
  refine xist (f' := fun _ => 0) F hP hD hS 1 rfl 22 (by decide +kernel) (by decide +kernel) (by decide) (xup0 _) dX11_copies_21 (fun H locs hP hD hS => ?_)
  have hP : va_P g vwCl [(h1, .inl (aC 0, 13, .inl (fun _ => 0))), (h2, .inl (aC 0, 52, .inl (fun _ => 0)))] H := hP
  have hD : va_D A [(h1, .inl (aC 0, 13, .inl (fun _ => 0))), (h2, .inl (aC 0, 52, .inl (fun _ => 0)))] := hD
  refine lv_iinc (v := 10) (lv' := [(4, .int 10), (0, .ref h1), (1, .int 0), (2, .ref h2), (3, .int 13)]) hx hb dX11_copies_22 hl (k := 0) rfl (by decide +kernel) (by decide) rfl (fun ls hl => ?_)
  refine lv_goto (tgt := 3) hx hb dX11_copies_25 (by decide) ?_
  refine lv_iload hx hb dX11_copies_3 (lv_at hl 0 rfl) ?_
  refine lv_bipush (v := 13) hx hb dX11_copies_5 (by decide) ?_
  refine lv_icmp_ge (tgt := 28) hx hb dX11_copies_7 (by decide) (fun c_ => absurd c_ (by decide +kernel)) (fun _ => ?_)
  refine lv_aload_n hx hb dX11_copies_10 rfl (lv_at hl 3 rfl) ?_
  refine lv_iload_n hx hb dX11_copies_11 rfl (lv_at hl 4 rfl) ?_
  refine lv_iload hx hb dX11_copies_12 (lv_at hl 0 rfl) ?_
  refine lv_iadd hx hb dX11_copies_14 ?_
  refine relit (v := 23) (by decide +kernel) ?_
  refine lv_aload_n hx hb dX11_copies_15 rfl (lv_at hl 1 rfl) ?_
  refine lv_iload_n hx hb dX11_copies_16 rfl (lv_at hl 2 rfl) ?_
  refine lv_iload hx hb dX11_copies_17 (lv_at hl 0 rfl) ?_
  refine lv_iadd hx hb dX11_copies_19 ?_
  refine relit (v := 10) (by decide +kernel) ?_
  refine xilo (v := 0) F hP 0 rfl 10 (by decide +kernel) (by decide +kernel) (by decide) (by decide +kernel) dX11_copies_20 ?_
  refine xist (f' := fun _ => 0) F hP hD hS 1 rfl 23 (by decide +kernel) (by decide +kernel) (by decide) (xup0 _) dX11_copies_21 (fun H locs hP hD hS => ?_)
  have hP : va_P g vwCl [(h1, .inl (aC 0, 13, .inl (fun _ => 0))), (h2, .inl (aC 0, 52, .inl (fun _ => 0)))] H := hP
  have hD : va_D A [(h1, .inl (aC 0, 13, .inl (fun _ => 0))), (h2, .inl (aC 0, 52, .inl (fun _ => 0)))] := hD
  refine lv_iinc (v := 11) (lv' := [(4, .int 11), (0, .ref h1), (1, .int 0), (2, .ref h2), (3, .int 13)]) hx hb dX11_copies_22 hl (k := 0) rfl (by decide +kernel) (by decide) rfl (fun ls hl => ?_)
  refine lv_goto (tgt := 3) hx hb dX11_copies_25 (by decide) ?_
  refine lv_iload hx hb dX11_copies_3 (lv_at hl 0 rfl) ?_
  refine lv_bipush (v := 13) hx hb dX11_copies_5 (by decide) ?_
  refine lv_icmp_ge (tgt := 28) hx hb dX11_copies_7 (by decide) (fun c_ => absurd c_ (by decide +kernel)) (fun _ => ?_)
  refine lv_aload_n hx hb dX11_copies_10 rfl (lv_at hl 3 rfl) ?_
  refine lv_iload_n hx hb dX11_copies_11 rfl (lv_at hl 4 rfl) ?_
  refine lv_iload hx hb dX11_copies_12 (lv_at hl 0 rfl) ?_
  refine lv_iadd hx hb dX11_copies_14 ?_
  refine relit (v := 24) (by decide +kernel) ?_
  refine lv_aload_n hx hb dX11_copies_15 rfl (lv_at hl 1 rfl) ?_
  refine lv_iload_n hx hb dX11_copies_16 rfl (lv_at hl 2 rfl) ?_
  refine lv_iload hx hb dX11_copies_17 (lv_at hl 0 rfl) ?_
  refine lv_iadd hx hb dX11_copies_19 ?_
  refine relit (v := 11) (by decide +kernel) ?_
  refine xilo (v := 0) F hP 0 rfl 11 (by decide +kernel) (by decide +kernel) (by decide) (by decide +kernel) dX11_copies_20 ?_
  refine xist (f' := fun _ => 0) F hP hD hS 1 rfl 24 (by decide +kernel) (by decide +kernel) (by decide) (xup0 _) dX11_copies_21 (fun H locs hP hD hS => ?_)
  have hP : va_P g vwCl [(h1, .inl (aC 0, 13, .inl (fun _ => 0))), (h2, .inl (aC 0, 52, .inl (fun _ => 0)))] H := hP
  have hD : va_D A [(h1, .inl (aC 0, 13, .inl (fun _ => 0))), (h2, .inl (aC 0, 52, .inl (fun _ => 0)))] := hD
  refine lv_iinc (v := 12) (lv' := [(4, .int 12), (0, .ref h1), (1, .int 0), (2, .ref h2), (3, .int 13)]) hx hb dX11_copies_22 hl (k := 0) rfl (by decide +kernel) (by decide) rfl (fun ls hl => ?_)
  refine lv_goto (tgt := 3) hx hb dX11_copies_25 (by decide) ?_
  refine lv_iload hx hb dX11_copies_3 (lv_at hl 0 rfl) ?_
  refine lv_bipush (v := 13) hx hb dX11_copies_5 (by decide) ?_
  refine lv_icmp_ge (tgt := 28) hx hb dX11_copies_7 (by decide) (fun c_ => absurd c_ (by decide +kernel)) (fun _ => ?_)
  refine lv_aload_n hx hb dX11_copies_10 rfl (lv_at hl 3 rfl) ?_
  refine lv_iload_n hx hb dX11_copies_11 rfl (lv_at hl 4 rfl) ?_
  refine lv_iload hx hb dX11_copies_12 (lv_at hl 0 rfl) ?_
  refine lv_iadd hx hb dX11_copies_14 ?_
  refine relit (v := 25) (by decide +kernel) ?_
  refine lv_aload_n hx hb dX11_copies_15 rfl (lv_at hl 1 rfl) ?_
  refine lv_iload_n hx hb dX11_copies_16 rfl (lv_at hl 2 rfl) ?_
  refine lv_iload hx hb dX11_copies_17 (lv_at hl 0 rfl) ?_
  refine lv_iadd hx hb dX11_copies_19 ?_
  refine relit (v := 12) (by decide +kernel) ?_
  refine xilo (v := 0) F hP 0 rfl 12 (by decide +kernel) (by decide +kernel) (by decide) (by decide +kernel) dX11_copies_20 ?_
  refine xist (f' := fun _ => 0) F hP hD hS 1 rfl 25 (by decide +kernel) (by decide +kernel) (by decide) (xup0 _) dX11_copies_21 (fun H locs hP hD hS => ?_)
  have hP : va_P g vwCl [(h1, .inl (aC 0, 13, .inl (fun _ => 0))), (h2, .inl (aC 0, 52, .inl (fun _ => 0)))] H := hP
  have hD : va_D A [(h1, .inl (aC 0, 13, .inl (fun _ => 0))), (h2, .inl (aC 0, 52, .inl (fun _ => 0)))] := hD
  refine lv_iinc (v := 13) (lv' := [(4, .int 13), (0, .ref h1), (1, .int 0), (2, .ref h2), (3, .int 13)]) hx hb dX11_copies_22 hl (k := 0) rfl (by decide +kernel) (by decide) rfl (fun ls hl => ?_)
  refine lv_goto (tgt := 3) hx hb dX11_copies_25 (by decide) ?_
  refine lv_iload hx hb dX11_copies_3 (lv_at hl 0 rfl) ?_
  refine lv_bipush (v := 13) hx hb dX11_copies_5 (by decide) ?_
  refine lv_icmp_ge (tgt := 28) hx hb dX11_copies_7 (by decide) (fun _ => ?_) (fun c_ => absurd (by decide +kernel) c_)
  have hP9 := hP.sub (ws' := [(h1, .inl (aC 0, 13, .inl (fun _ => 0))), (h2, .inl (aC 0, 52, .inl (fun _ => 0)))]) [0, 1] rfl
  have hD9 := hD.sub (ws' := [(h1, .inl (aC 0, 13, .inl (fun _ => 0))), (h2, .inl (aC 0, 52, .inl (fun _ => 0)))]) [0, 1] (by decide) rfl
  exact rV () hx hb hr hlk hS trivial hP9 hD9 (Nat.le_of_ble_eq_true rfl) (Nat.le_of_ble_eq_true rfl) dX11_copies_28

set_option maxHeartbeats 4000000 in
set_option maxRecDepth 100000 in
theorem a_X11_copies_6 (l : Launch) (g : va_G) (aC : Nat → ClassId) (aM : Nat → Nat) (h1 h2 : Nat) : Ct l g aC aM yX11_copies cX11_copies 5 none 1 [.ref h1, .int 0, .ref h2, .int 26] [(h1, .inl (aC 0, 13, .inl (fun _ => 0))), (h2, .inl (aC 0, 52, .inl (fun _ => 0)))] (QV g (fun (_ : Unit) => True) (fun (_ : Unit) => [(h1, .inl (aC 0, 13, .inl (fun _ => 0))), (h2, .inl (aC 0, 52, .inl (fun _ => 0)))])) 0 0 := by
  refine Ct.mk (by decide) (Nat.le_of_ble_eq_true rfl) ?_
  intro p e s m below meth c A ls hx hb hml hown hts hr hlk hnm hK hA hM hM2 hP hD hS hl
  have hown : s.vm.findClass RX11 = some m.cls := hown
  have F : Fx p s m _ c cX11_copies 5 RX11 g aC aM A := ⟨hx, hb, hml, hown, hts, hK, hA, hM, hM2⟩
  have hl : lv_has ls 5 [(0, .ref h1), (1, .int 0), (2, .ref h2), (3, .int 26)] := hl
  refine lv_iconst (v := 0) hx hb dX11_copies_0 (by decide) ?_
  refine lv_istore (lv' := [(4, .int 0), (0, .ref h1), (1, .int 0), (2, .ref h2), (3, .int 26)]) hx hb dX11_copies_1 hl (by decide) rfl (fun ls hl => ?_)
  refine lv_iload hx hb dX11_copies_3 (lv_at hl 0 rfl) ?_
  refine lv_bipush (v := 13) hx hb dX11_copies_5 (by decide) ?_
  refine lv_icmp_ge (tgt := 28) hx hb dX11_copies_7 (by decide) (fun c_ => absurd c_ (by decide +kernel)) (fun _ => ?_)
  refine lv_aload_n hx hb dX11_copies_10 rfl (lv_at hl 3 rfl) ?_
  refine lv_iload_n hx hb dX11_copies_11 rfl (lv_at hl 4 rfl) ?_
  refine lv_iload hx hb dX11_copies_12 (lv_at hl 0 rfl) ?_
  refine lv_iadd hx hb dX11_copies_14 ?_
  refine relit (v := 26) (by decide +kernel) ?_
  refine lv_aload_n hx hb dX11_copies_15 rfl (lv_at hl 1 rfl) ?_
  refine lv_iload_n hx hb dX11_copies_16 rfl (lv_at hl 2 rfl) ?_
  refine lv_iload hx hb dX11_copies_17 (lv_at hl 0 rfl) ?_
  refine lv_iadd hx hb dX11_copies_19 ?_
  refine relit (v := 0) (by decide +kernel) ?_
  refine xilo (v := 0) F hP 0 rfl 0 (by decide +kernel) (by decide +kernel) (by decide) (by decide +kernel) dX11_copies_20 ?_
  refine xist (f' := fun _ => 0) F hP hD hS 1 rfl 26 (by decide +kernel) (by decide +kernel) (by decide) (xup0 _) dX11_copies_21 (fun H locs hP hD hS => ?_)
  have hP : va_P g vwCl [(h1, .inl (aC 0, 13, .inl (fun _ => 0))), (h2, .inl (aC 0, 52, .inl (fun _ => 0)))] H := hP
  have hD : va_D A [(h1, .inl (aC 0, 13, .inl (fun _ => 0))), (h2, .inl (aC 0, 52, .inl (fun _ => 0)))] := hD
  refine lv_iinc (v := 1) (lv' := [(4, .int 1), (0, .ref h1), (1, .int 0), (2, .ref h2), (3, .int 26)]) hx hb dX11_copies_22 hl (k := 0) rfl (by decide +kernel) (by decide) rfl (fun ls hl => ?_)
  refine lv_goto (tgt := 3) hx hb dX11_copies_25 (by decide) ?_
  refine lv_iload hx hb dX11_copies_3 (lv_at hl 0 rfl) ?_
  refine lv_bipush (v := 13) hx hb dX11_copies_5 (by decide) ?_
  refine lv_icmp_ge (tgt := 28) hx hb dX11_copies_7 (by decide) (fun c_ => absurd c_ (by decide +kernel)) (fun _ => ?_)
  refine lv_aload_n hx hb dX11_copies_10 rfl (lv_at hl 3 rfl) ?_
  refine lv_iload_n hx hb dX11_copies_11 rfl (lv_at hl 4 rfl) ?_
  refine lv_iload hx hb dX11_copies_12 (lv_at hl 0 rfl) ?_
  refine lv_iadd hx hb dX11_copies_14 ?_
  refine relit (v := 27) (by decide +kernel) ?_
  refine lv_aload_n hx hb dX11_copies_15 rfl (lv_at hl 1 rfl) ?_
  refine lv_iload_n hx hb dX11_copies_16 rfl (lv_at hl 2 rfl) ?_
  refine lv_iload hx hb dX11_copies_17 (lv_at hl 0 rfl) ?_
  refine lv_iadd hx hb dX11_copies_19 ?_
  refine relit (v := 1) (by decide +kernel) ?_
  refine xilo (v := 0) F hP 0 rfl 1 (by decide +kernel) (by decide +kernel) (by decide) (by decide +kernel) dX11_copies_20 ?_
  refine xist (f' := fun _ => 0) F hP hD hS 1 rfl 27 (by decide +kernel) (by decide +kernel) (by decide) (xup0 _) dX11_copies_21 (fun H locs hP hD hS => ?_)
  have hP : va_P g vwCl [(h1, .inl (aC 0, 13, .inl (fun _ => 0))), (h2, .inl (aC 0, 52, .inl (fun _ => 0)))] H := hP
  have hD : va_D A [(h1, .inl (aC 0, 13, .inl (fun _ => 0))), (h2, .inl (aC 0, 52, .inl (fun _ => 0)))] := hD
  refine lv_iinc (v := 2) (lv' := [(4, .int 2), (0, .ref h1), (1, .int 0), (2, .ref h2), (3, .int 26)]) hx hb dX11_copies_22 hl (k := 0) rfl (by decide +kernel) (by decide) rfl (fun ls hl => ?_)
  refine lv_goto (tgt := 3) hx hb dX11_copies_25 (by decide) ?_
  refine lv_iload hx hb dX11_copies_3 (lv_at hl 0 rfl) ?_
  refine lv_bipush (v := 13) hx hb dX11_copies_5 (by decide) ?_
  refine lv_icmp_ge (tgt := 28) hx hb dX11_copies_7 (by decide) (fun c_ => absurd c_ (by decide +kernel)) (fun _ => ?_)
  refine lv_aload_n hx hb dX11_copies_10 rfl (lv_at hl 3 rfl) ?_
  refine lv_iload_n hx hb dX11_copies_11 rfl (lv_at hl 4 rfl) ?_
  refine lv_iload hx hb dX11_copies_12 (lv_at hl 0 rfl) ?_
  refine lv_iadd hx hb dX11_copies_14 ?_
  refine relit (v := 28) (by decide +kernel) ?_
  refine lv_aload_n hx hb dX11_copies_15 rfl (lv_at hl 1 rfl) ?_
  refine lv_iload_n hx hb dX11_copies_16 rfl (lv_at hl 2 rfl) ?_
  refine lv_iload hx hb dX11_copies_17 (lv_at hl 0 rfl) ?_
  refine lv_iadd hx hb dX11_copies_19 ?_
  refine relit (v := 2) (by decide +kernel) ?_
  refine xilo (v := 0) F hP 0 rfl 2 (by decide +kernel) (by decide +kernel) (by decide) (by decide +kernel) dX11_copies_20 ?_
  refine xist (f' := fun _ => 0) F hP hD hS 1 rfl 28 (by decide +kernel) (by decide +kernel) (by decide) (xup0 _) dX11_copies_21 (fun H locs hP hD hS => ?_)
  have hP : va_P g vwCl [(h1, .inl (aC 0, 13, .inl (fun _ => 0))), (h2, .inl (aC 0, 52, .inl (fun _ => 0)))] H := hP
  have hD : va_D A [(h1, .inl (aC 0, 13, .inl (fun _ => 0))), (h2, .inl (aC 0, 52, .inl (fun _ => 0)))] := hD
  refine lv_iinc (v := 3) (lv' := [(4, .int 3), (0, .ref h1), (1, .int 0), (2, .ref h2), (3, .int 26)]) hx hb dX11_copies_22 hl (k := 0) rfl (by decide +kernel) (by decide) rfl (fun ls hl => ?_)
  refine lv_goto (tgt := 3) hx hb dX11_copies_25 (by decide) ?_
  refine lv_iload hx hb dX11_copies_3 (lv_at hl 0 rfl) ?_
  refine lv_bipush (v := 13) hx hb dX11_copies_5 (by decide) ?_
  refine lv_icmp_ge (tgt := 28) hx hb dX11_copies_7 (by decide) (fun c_ => absurd c_ (by decide +kernel)) (fun _ => ?_)
  refine lv_aload_n hx hb dX11_copies_10 rfl (lv_at hl 3 rfl) ?_
  refine lv_iload_n hx hb dX11_copies_11 rfl (lv_at hl 4 rfl) ?_
  refine lv_iload hx hb dX11_copies_12 (lv_at hl 0 rfl) ?_
  refine lv_iadd hx hb dX11_copies_14 ?_
  refine relit (v := 29) (by decide +kernel) ?_
  refine lv_aload_n hx hb dX11_copies_15 rfl (lv_at hl 1 rfl) ?_
  refine lv_iload_n hx hb dX11_copies_16 rfl (lv_at hl 2 rfl) ?_
  refine lv_iload hx hb dX11_copies_17 (lv_at hl 0 rfl) ?_
  refine lv_iadd hx hb dX11_copies_19 ?_
  refine relit (v := 3) (by decide +kernel) ?_
  refine xilo (v := 0) F hP 0 rfl 3 (by decide +kernel) (by decide +kernel) (by decide) (by decide +kernel) dX11_copies_20 ?_
  refine xist (f' := fun _ => 0) F hP hD hS 1 rfl 29 (by decide +kernel) (by decide +kernel) (by decide) (xup0 _) dX11_copies_21 (fun H locs hP hD hS => ?_)
  have hP : va_P g vwCl [(h1, .inl (aC 0, 13, .inl (fun _ => 0))), (h2, .inl (aC 0, 52, .inl (fun _ => 0)))] H := hP
  have hD : va_D A [(h1, .inl (aC 0, 13, .inl (fun _ => 0))), (h2, .inl (aC 0, 52, .inl (fun _ => 0)))] := hD
  refine lv_iinc (v := 4) (lv' := [(4, .int 4), (0, .ref h1), (1, .int 0), (2, .ref h2), (3, .int 26)]) hx hb dX11_copies_22 hl (k := 0) rfl (by decide +kernel) (by decide) rfl (fun ls hl => ?_)
  refine lv_goto (tgt := 3) hx hb dX11_copies_25 (by decide) ?_
  refine lv_iload hx hb dX11_copies_3 (lv_at hl 0 rfl) ?_
  refine lv_bipush (v := 13) hx hb dX11_copies_5 (by decide) ?_
  refine lv_icmp_ge (tgt := 28) hx hb dX11_copies_7 (by decide) (fun c_ => absurd c_ (by decide +kernel)) (fun _ => ?_)
  refine lv_aload_n hx hb dX11_copies_10 rfl (lv_at hl 3 rfl) ?_
  refine lv_iload_n hx hb dX11_copies_11 rfl (lv_at hl 4 rfl) ?_
  refine lv_iload hx hb dX11_copies_12 (lv_at hl 0 rfl) ?_
  refine lv_iadd hx hb dX11_copies_14 ?_
  refine relit (v := 30) (by decide +kernel) ?_
  refine lv_aload_n hx hb dX11_copies_15 rfl (lv_at hl 1 rfl) ?_
  refine lv_iload_n hx hb dX11_copies_16 rfl (lv_at hl 2 rfl) ?_
  refine lv_iload hx hb dX11_copies_17 (lv_at hl 0 rfl) ?_
  refine lv_iadd hx hb dX11_copies_19 ?_
  refine relit (v := 4) (by decide +kernel) ?_
  refine xilo (v := 0) F hP 0 rfl 4 (by decide +kernel) (by decide +kernel) (by decide) (by decide +kernel) dX11_copies_20 ?_
  refine xist (f' := fun _ => 0) F hP hD hS 1 rfl 30 (by decide +kernel) (by decide +kernel) (by decide) (xup0 _) dX11_copies_21 (fun H locs hP hD hS => ?_)
  have hP : va_P g vwCl [(h1, .inl (aC 0, 13, .inl (fun _ => 0))), (h2, .inl (aC 0, 52, .inl (fun _ => 0)))] H := hP
  have hD : va_D A [(h1, .inl (aC 0, 13, .inl (fun _ => 0))), (h2, .inl (aC 0, 52, .inl (fun _ => 0)))] := hD
  refine lv_iinc (v := 5) (lv' := [(4, .int 5), (0, .ref h1), (1, .int 0), (2, .ref h2), (3, .int 26)]) hx hb dX11_copies_22 hl (k := 0) rfl (by decide +kernel) (by decide) rfl (fun ls hl => ?_)
  refine lv_goto (tgt := 3) hx hb dX11_copies_25 (by decide) ?_
  refine lv_iload hx hb dX11_copies_3 (lv_at hl 0 rfl) ?_
  refine lv_bipush (v := 13) hx hb dX11_copies_5 (by decide) ?_
  refine lv_icmp_ge (tgt := 28) hx hb dX11_copies_7 (by decide) (fun c_ => absurd c_ (by decide +kernel)) (fun _ => ?_)
  refine lv_aload_n hx hb dX11_copies_10 rfl (lv_at hl 3 rfl) ?_
  refine lv_iload_n hx hb dX11_copies_11 rfl (lv_at hl 4 rfl) ?_
  refine lv_iload hx hb dX11_copies_12 (lv_at hl 0 rfl) ?_
  refine lv_iadd hx hb dX11_copies_14 ?_
  refine relit (v := 31) (by decide +kernel) ?_
  refine lv_aload_n hx hb dX11_copies_15 rfl (lv_at hl 1 rfl) ?_
  refine lv_iload_n hx hb dX11_copies_16 rfl (lv_at hl 2 rfl) ?_
  refine lv_iload hx hb dX11_copies_17 (lv_at hl 0 rfl) ?_
  refine lv_iadd hx hb dX11_copies_19 ?_
  refine relit (v := 5) (by decide +kernel) ?_
  refine xilo (v := 0) F hP 0 rfl 5 (by decide +kernel) (by decide +kernel) (by decide) (by decide +kernel) dX11_copies_20 ?_
  refine xist (f' := fun _ => 0) F hP hD hS 1 rfl 31 (by decide +kernel) (by decide +kernel) (by decide) (xup0 _) dX11_copies_21 (fun H locs hP hD hS => ?_)
  have hP : va_P g vwCl [(h1, .inl (aC 0, 13, .inl (fun _ => 0))), (h2, .inl (aC 0, 52, .inl (fun _ => 0)))] H := hP
  have hD : va_D A [(h1, .inl (aC 0, 13, .inl (fun _ => 0))), (h2, .inl (aC 0, 52, .inl (fun _ => 0)))] := hD
  refine lv_iinc (v := 6) (lv' := [(4, .int 6), (0, .ref h1), (1, .int 0), (2, .ref h2), (3, .int 26)]) hx hb dX11_copies_22 hl (k := 0) rfl (by decide +kernel) (by decide) rfl (fun ls hl => ?_)
  refine lv_goto (tgt := 3) hx hb dX11_copies_25 (by decide) ?_
  refine lv_iload hx hb dX11_copies_3 (lv_at hl 0 rfl) ?_
  refine lv_bipush (v := 13) hx hb dX11_copies_5 (by decide) ?_
  refine lv_icmp_ge (tgt := 28) hx hb dX11_copies_7 (by decide) (fun c_ => absurd c_ (by decide +kernel)) (fun _ => ?_)
  refine lv_aload_n hx hb dX11_copies_10 rfl (lv_at hl 3 rfl) ?_
  refine lv_iload_n hx hb dX11_copies_11 rfl (lv_at hl 4 rfl) ?_
  refine lv_iload hx hb dX11_copies_12 (lv_at hl 0 rfl) ?_
  refine lv_iadd hx hb dX11_copies_14 ?_
  refine relit (v := 32) (by decide +kernel) ?_
  refine lv_aload_n hx hb dX11_copies_15 rfl (lv_at hl 1 rfl) ?_
  refine lv_iload_n hx hb dX11_copies_16 rfl (lv_at hl 2 rfl) ?_
  refine lv_iload hx hb dX11_copies_17 (lv_at hl 0 rfl) ?_
  refine lv_iadd hx hb dX11_copies_19 ?_
  refine relit (v := 6) (by decide +kernel) ?_
  refine xilo (v := 0) F hP 0 rfl 6 (by decide +kernel) (by decide +kernel) (by decide) (by decide +kernel) dX11_copies_20 ?_
  refine xist (f' := fun _ => 0) F hP hD hS 1 rfl 32 (by decide +kernel) (by decide +kernel) (by decide) (xup0 _) dX11_copies_21 (fun H locs hP hD hS => ?_)
  have hP : va_P g vwCl [(h1, .inl (aC 0, 13, .inl (fun _ => 0))), (h2, .inl (aC 0, 52, .inl (fun _ => 0)))] H := hP
  have hD : va_D A [(h1, .inl (aC 0, 13, .inl (fun _ => 0))), (h2, .inl (aC 0, 52, .inl (fun _ => 0)))] := hD
  refine lv_iinc (v := 7) (lv' := [(4, .int 7), (0, .ref h1), (1, .int 0), (2, .ref h2), (3, .int 26)]) hx hb dX11_copies_22 hl (k := 0) rfl (by decide +kernel) (by decide) rfl (fun ls hl => ?_)
  refine lv_goto (tgt := 3) hx hb dX11_copies_25 (by decide) ?_
  refine lv_iload hx hb dX11_copies_3 (lv_at hl 0 rfl) ?_
  refine lv_bipush (v := 13) hx hb dX11_copies_5 (by decide) ?_
  refine lv_icmp_ge (tgt := 28) hx hb dX11_copies_7 (by decide) (fun c_ => absurd c_ (by decide +kernel)) (fun _ => ?_)
  refine lv_aload_n hx hb dX11_copies_10 rfl (lv_at hl 3 rfl) ?_
  refine lv_iload_n hx hb dX11_copies_11 rfl (lv_at hl 4 rfl) ?_
  refine lv_iload hx hb dX11_copies_12 (lv_at hl 0 rfl) ?_
  refine lv_iadd hx hb dX11_copies_14 ?_
  refine relit (v := 33) (by decide +kernel) ?_
  refine lv_aload_n hx hb dX11_copies_15 rfl (lv_at hl 1 rfl) ?_
  refine lv_iload_n hx hb dX11_copies_16 rfl (lv_at hl 2 rfl) ?_
  refine lv_iload hx hb dX11_copies_17 (lv_at hl 0 rfl) ?_
  refine lv_iadd hx hb dX11_copies_19 ?_
  refine relit (v := 7) (by decide +kernel) ?_
  refine xilo (v := 0) F hP 0 rfl 7 (by decide +kernel) (by decide +kernel) (by decide) (by decide +kernel) dX11_copies_20 ?_
  refine xist (f' := fun _ => 0) F hP hD hS 1 rfl 33 (by decide +kernel) (by decide +kernel) (by decide) (xup0 _) dX11_copies_21 (fun H locs hP hD hS => ?_)
  have hP : va_P g vwCl [(h1, .inl (aC 0, 13, .inl (fun _ => 0))), (h2, .inl (aC 0, 52, .inl (fun _ => 0)))] H := hP
  have hD : va_D A [(h1, .inl (aC 0, 13, .inl (fun _ => 0))), (h2, .inl (aC 0, 52, .inl (fun _ => 0)))] := hD
  refine lv_iinc (v := 8) (lv' := [(4, .int 8), (0, .ref h1), (1, .int 0), (2, .ref h2), (3, .int 26)]) hx hb dX11_copies_22 hl (k := 0) rfl (by decide +kernel) (by decide) rfl (fun ls hl => ?_)
  refine lv_goto (tgt := 3) hx hb dX11_copies_25 (by decide) ?_
  refine lv_iload hx hb dX11_copies_3 (lv_at hl 0 rfl) ?_
  refine lv_bipush (v := 13) hx hb dX11_copies_5 (by decide) ?_
  refine lv_icmp_ge (tgt := 28) hx hb dX11_copies_7 (by decide) (fun c_ => absurd c_ (by decide +kernel)) (fun _ => ?_)
  refine lv_aload_n hx hb dX11_copies_10 rfl (lv_at hl 3 rfl) ?_
  refine lv_iload_n hx hb dX11_copies_11 rfl (lv_at hl 4 rfl) ?_
  refine lv_iload hx hb dX11_copies_12 (lv_at hl 0 rfl) ?_
  refine lv_iadd hx hb dX11_copies_14 ?_
  refine relit (v := 34) (by decide +kernel) ?_
  refine lv_aload_n hx hb dX11_copies_15 rfl (lv_at hl 1 rfl) ?_
  refine lv_iload_n hx hb dX11_copies_16 rfl (lv_at hl 2 rfl) ?_
  refine lv_iload hx hb dX11_copies_17 (lv_at hl 0 rfl) ?_
  refine lv_iadd hx hb dX11_copies_19 ?_
  refine relit (v := 8) (by decide +kernel) ?_
  refine xilo (v := 0) F hP 0 rfl 8 (by decide +kernel) (by decide +kernel) (by decide) (by decide +kernel) dX11_copies_20 ?_
  refine xist (f' := fun _ => 0) F hP hD hS 1 rfl 34 (by decide +kernel) (by decide +kernel) (by decide) (xup0 _) dX11_copies_21 (fun H locs hP hD hS => ?_)
  have hP : va_P g vwCl [(h1, .inl (aC 0, 13, .inl (fun _ => 0))), (h2, .inl (aC 0, 52, .inl (fun _ => 0)))] H := hP
  have hD : va_D A [(h1, .inl (aC 0, 13, .inl (fun _ => 0))), (h2, .inl (aC 0, 52, .inl (fun _ => 0)))] := hD
  refine lv_iinc (v := 9) (lv' := [(4, .int 9), (0, .ref h1), (1, .int 0), (2, .ref h2), (3, .int 26)]) hx hb dX11_copies_22 hl (k := 0) rfl (by decide +kernel) (by decide) rfl (fun ls hl => ?_)
  refine lv_goto (tgt := 3) hx hb dX11_copies_25 (by decide) ?_
  refine lv_iload hx hb dX11_copies_3 (lv_at hl 0 rfl) ?_
  refine lv_bipush (v := 13) hx hb dX11_copies_5 (by decide) ?_
  refine lv_icmp_ge (tgt := 28) hx hb dX11_copies_7 (by decide) (fun c_ => absurd c_ (by decide +kernel)) (fun _ => ?_)
  refine lv_aload_n hx hb dX11_copies_10 rfl (lv_at hl 3 rfl) ?_
  refine lv_iload_n hx hb dX11_copies_11 rfl (lv_at hl 4 rfl) ?_
  refine lv_iload hx hb dX11_copies_12 (lv_at hl 0 rfl) ?_
  refine lv_iadd hx hb dX11_copies_14 ?_
  refine relit (v := 35) (by decide +kernel) ?_
  refine lv_aload_n hx hb dX11_copies_15 rfl (lv_at hl 1 rfl) ?_
  refine lv_iload_n hx hb dX11_copies_16 rfl (lv_at hl 2 rfl) ?_
  refine lv_iload hx hb dX11_copies_17 (lv_at hl 0 rfl) ?_
  refine lv_iadd hx hb dX11_copies_19 ?_
  refine relit (v := 9) (by decide +kernel) ?_
  refine xilo (v := 0) F hP 0 rfl 9 (by decide +kernel) (by decide +kernel) (by decide) (by decide +kernel) dX11_copies_20 ?_
  refine xist (f' := fun _ => 0) F hP hD hS 1 rfl 35 (by decide +kernel) (by decide +kernel) (by decide) (xup0 _) dX11_copies_21 (fun H locs hP hD hS => ?_)
  have hP : va_P g vwCl [(h1, .inl (aC 0, 13, .inl (fun _ => 0))), (h2, .inl (aC 0, 52, .inl (fun _ => 0)))] H := hP
  have hD : va_D A [(h1, .inl (aC 0, 13, .inl (fun _ => 0))), (h2, .inl (aC 0, 52, .inl (fun _ => 0)))] := hD
  refine lv_iinc (v := 10) (lv' := [(4, .int 10), (0, .ref h1), (1, .int 0), (2, .ref h2), (3, .int 26)]) hx hb dX11_copies_22 hl (k := 0) rfl (by decide +kernel) (by decide) rfl (fun ls hl => ?_)
  refine lv_goto (tgt := 3) hx hb dX11_copies_25 (by decide) ?_
  refine lv_iload hx hb dX11_copies_3 (lv_at hl 0 rfl) ?_
  refine lv_bipush (v := 13) hx hb dX11_copies_5 (by decide) ?_
  refine lv_icmp_ge (tgt := 28) hx hb dX11_copies_7 (by decide) (fun c_ => absurd c_ (by decide +kernel)) (fun _ => ?_)
  refine lv_aload_n hx hb dX11_copies_10 rfl (lv_at hl 3 rfl) ?_
  refine lv_iload_n hx hb dX11_copies_11 rfl (lv_at hl 4 rfl) ?_
  refine lv_iload hx hb dX11_copies_12 (lv_at hl 0 rfl) ?_
  refine lv_iadd hx hb dX11_copies_14 ?_
  refine relit (v := 36) (by decide +kernel) ?_
  refine lv_aload_n hx hb dX11_copies_15 rfl (lv_at hl 1 rfl) ?_
  refine lv_iload_n hx hb dX11_copies_16 rfl (lv_at hl 2 rfl) ?_
  refine lv_iload hx hb dX11_copies_17 (lv_at hl 0 rfl) ?_
  refine lv_iadd hx hb dX11_copies_19 ?_
  refine relit (v := 10) (by decide +kernel) ?_
  refine xilo (v := 0) F hP 0 rfl 10 (by decide +kernel) (by decide +kernel) (by decide) (by decide +kernel) dX11_copies_20 ?_
  refine xist (f' := fun _ => 0) F hP hD hS 1 rfl 36 (by decide +kernel) (by decide +kernel) (by decide) (xup0 _) dX11_copies_21 (fun H locs hP hD hS => ?_)
  have hP : va_P g vwCl [(h1, .inl (aC 0, 13, .inl (fun _ => 0))), (h2, .inl (aC 0, 52, .inl (fun _ => 0)))] H := hP
  have hD : va_D A [(h1, .inl (aC 0, 13, .inl (fun _ => 0))), (h2, .inl (aC 0, 52, .inl (fun _ => 0)))] := hD
  refine lv_iinc (v := 11) (lv' := [(4, .int 11), (0, .ref h1), (1, .int 0), (2, .ref h2), (3, .int 26)]) hx hb dX11_copies_22 hl (k := 0) rfl (by decide +kernel) (by decide) rfl (fun ls hl => ?_)
  refine lv_goto (tgt := 3) hx hb dX11_copies_25 (by decide) ?_
  refine lv_iload hx hb dX11_copies_3 (lv_at hl 0 rfl) ?_
  refine lv_bipush (v := 13) hx hb dX11_copies_5 (by decide) ?_
  refine lv_icmp_ge (tgt := 28) hx hb dX11_copies_7 (by decide) (fun c_ => absurd c_ (by decide +kernel)) (fun _ => ?_)
  refine lv_aload_n hx hb dX11_copies_10 rfl (lv_at hl 3 rfl) ?_
  refine lv_iload_n hx hb dX11_copies_11 rfl (lv_at hl 4 rfl) ?_
  refine lv_iload hx hb dX11_copies_12 (lv_at hl 0 rfl) ?_
  refine lv_iadd hx hb dX11_copies_14 ?_
  refine relit (v := 37) (by decide +kernel) ?_
  refine lv_aload_n hx hb dX11_copies_15 rfl (lv_at hl 1 rfl) ?_
  refine lv_iload_n hx hb dX11_copies_16 rfl (lv_at hl 2 rfl) ?_
  refine lv_iload hx hb dX11_copies_17 (lv_at hl 0 rfl) ?_
  refine lv_iadd hx hb dX11_copies_19 ?_
  refine relit (v := 11) (by decide +kernel) ?_
  refine xilo (v := 0) F hP 0 rfl 11 (by decide +kernel) (by decide +kernel) (by decide) (by decide +kernel) dX11_copies_20 ?_
  refine xist (f' := fun _ => 0) F hP hD hS 1 rfl 37 (by decide +kernel) (by decide +kernel) (by decide) (xup0 _) dX11_copies_21 (fun H locs hP hD hS => ?_)
  have hP : va_P g vwCl [(h1, .inl (aC 0, 13, .inl (fun _ => 0))), (h2, .inl (aC 0, 52, .inl (fun _ => 0)))] H := hP
  have hD : va_D A [(h1, .inl (aC 0, 13, .inl (fun _ => 0))), (h2, .inl (aC 0, 52, .inl (fun _ => 0)))] := hD
  refine lv_iinc (v := 12) (lv' := [(4, .int 12), (0, .ref h1), (1, .int 0), (2, .ref h2), (3, .int 26)]) hx hb dX11_copies_22 hl (k := 0) rfl (by decide +kernel) (by decide) rfl (fun ls hl => ?_)
  refine lv_goto (tgt := 3) hx hb dX11_copies_25 (by decide) ?_
  refine lv_iload hx hb dX11_copies_3 (lv_at hl 0 rfl) ?_
  refine lv_bipush (v := 13) hx hb dX11_copies_5 (by decide) ?_
  refine lv_icmp_ge (tgt := 28) hx hb dX11_copies_7 (by decide) (fun c_ => absurd c_ (by decide +kernel)) (fun _ => ?_)
  refine lv_aload_n hx hb dX11_copies_10 rfl (lv_at hl 3 rfl) ?_
  refine lv_iload_n hx hb dX11_copies_11 rfl (lv_at hl 4 rfl) ?_
  refine lv_iload hx hb dX11_copies_12 (lv_at hl 0 rfl) ?_
  refine lv_iadd hx hb dX11_copies_14 ?_
  refine relit (v := 38) (by decide +kernel) ?_
  refine lv_aload_n hx hb dX11_copies_15 rfl (lv_at hl 1 rfl) ?_
  refine lv_iload_n hx hb dX11_copies_16 rfl (lv_at hl 2 rfl) ?_
  refine lv_iload hx hb dX11_copies_17 (lv_at hl 0 rfl) ?_
  refine lv_iadd hx hb dX11_copies_19 ?_
  refine relit (v := 12) (by decide +kernel) ?_
  refine xilo (v := 0) F hP 0 rfl 12 (by decide +kernel) (by decide +kernel) (by decide) (by decide +kernel) dX11_copies_20 ?_
  refine xist (f' := fun _ => 0) F hP hD hS 1 rfl 38 (by decide +kernel) (by decide +kernel) (by decide) (xup0 _) dX11_copies_21 (fun H locs hP hD hS => ?_)
  have hP : va_P g vwCl [(h1, .inl (aC 0, 13, .inl (fun _ => 0))), (h2, .inl (aC 0, 52, .inl (fun _ => 0)))] H := hP
  have hD : va_D A [(h1, .inl (aC 0, 13, .inl (fun _ => 0))), (h2, .inl (aC 0, 52, .inl (fun _ => 0)))] := hD
  refine lv_iinc (v := 13) (lv' := [(4, .int 13), (0, .ref h1), (1, .int 0), (2, .ref h2), (3, .int 26)]) hx hb dX11_copies_22 hl (k := 0) rfl (by decide +kernel) (by decide) rfl (fun ls hl => ?_)
  refine lv_goto (tgt := 3) hx hb dX11_copies_25 (by decide) ?_
  refine lv_iload hx hb dX11_copies_3 (lv_at hl 0 rfl) ?_
  refine lv_bipush (v := 13) hx hb dX11_copies_5 (by decide) ?_
  refine lv_icmp_ge (tgt := 28) hx hb dX11_copies_7 (by decide) (fun _ => ?_) (fun c_ => absurd (by decide +kernel) c_)
  have hP9 := hP.sub (ws' := [(h1, .inl (aC 0, 13, .inl (fun _ => 0))), (h2, .inl (aC 0, 52, .inl (fun _ => 0)))]) [0, 1] rfl
  have hD9 := hD.sub (ws' := [(h1, .inl (aC 0, 13, .inl (fun _ => 0))), (h2, .inl (aC 0, 52, .inl (fun _ => 0)))]) [0, 1] (by decide) rfl
  exact rV () hx hb hr hlk hS trivial hP9 hD9 (Nat.le_of_ble_eq_true rfl) (Nat.le_of_ble_eq_true rfl) dX11_copies_28

set_option maxHeartbeats 4000000 in
set_option maxRecDepth 100000 in
theorem a_X11_copies_7 (l : Launch) (g : va_G) (aC : Nat → ClassId) (aM : Nat → Nat) (h1 h2 : Nat) : Ct l g aC aM yX11_copies cX11_copies 5 none 1 [.ref h1, .int 0, .ref h2, .int 39] [(h1, .inl (aC 0, 13, .inl (fun _ => 0))), (h2, .inl (aC 0, 52, .inl (fun _ => 0)))] (QV g (fun (_ : Unit) => True) (fun (_ : Unit) => [(h1, .inl (aC 0, 13, .inl (fun _ => 0))), (h2, .inl (aC 0, 52, .inl (fun _ => 0)))])) 0 0 := by
  refine Ct.mk (by decide) (Nat.le_of_ble_eq_true rfl) ?_
  intro p e s m below meth c A ls hx hb hml hown hts hr hlk hnm hK hA hM hM2 hP hD hS hl
  have hown : s.vm.findClass RX11 = some m.cls := hown
  have F : Fx p s m _ c cX11_copies 5 RX11 g aC aM A := ⟨hx, hb, hml, hown, hts, hK, hA, hM, hM2⟩
  have hl : lv_has ls 5 [(0, .ref h1), (1, .int 0), (2, .ref h2), (3, .int 39)] := hl
  refine lv_iconst (v := 0) hx hb dX11_copies_0 (by decide) ?_
  refine lv_istore (lv' := [(4, .int 0), (0, .ref h1), (1, .int 0), (2, .ref h2), (3, .int 39)]) hx hb dX11_copies_1 hl (by decide) rfl (fun ls hl => ?_)
  refine lv_iload hx hb dX11_copies_3 (lv_at hl 0 rfl) ?_
  refine lv_bipush (v := 13) hx hb dX11_copies_5 (by decide) ?_
  refine lv_icmp_ge (tgt := 28) hx hb dX11_copies_7 (by decide) (fun c_ => absurd c_ (by decide +kernel)) (fun _ => ?_)
  refine lv_aload_n hx hb dX11_copies_10 rfl (lv_at hl 3 rfl) ?_
  refine lv_iload_n hx hb dX11_copies_11 rfl (lv_at hl 4 rfl) ?_
  refine lv_iload hx hb dX11_copies_12 (lv_at hl 0 rfl) ?_
  refine lv_iadd hx hb dX11_copies_14 ?_
  refine relit (v := 39) (by decide +kernel) ?_
  refine lv_aload_n hx hb dX11_copies_15 rfl (lv_at hl 1 rfl) ?_
  refine lv_iload_n hx hb dX11_copies_16 rfl (lv_at hl 2 rfl) ?_
  refine lv_iload hx hb dX11_copies_17 (lv_at hl 0 rfl) ?_
  refine lv_iadd hx hb dX11_copies_19 ?_
  refine relit (v := 0) (by decide +kernel) ?_
  refine xilo (v := 0) F hP 0 rfl 0 (by decide +kernel) (by decide +kernel) (by decide) (by decide +kernel) dX11_copies_20 ?_
  refine xist (f' := fun _ => 0) F hP hD hS 1 rfl 39 (by decide +kernel) (by decide +kernel) (by decide) (xup0 _) dX11_copies_21 (fun H locs hP hD hS => ?_)
  have hP : va_P g vwCl [(h1, .inl (aC 0, 13, .inl (fun _ => 0))), (h2, .inl (aC 0, 52, .inl (fun _ => 0)))] H := hP
  have hD : va_D A [(h1, .inl (aC 0, 13, .inl (fun _ => 0))), (h2, .inl (aC 0, 52, .inl (fun _ => 0)))] := hD
  refine lv_iinc (v := 1) (lv' := [(4, .int 1), (0, .ref h1), (1, .int 0), (2, .ref h2), (3, .int 39)]) hx hb dX11_copies_22 hl (k := 0) rfl (by decide +kernel) (by decide) rfl (fun ls hl => ?_)
  refine lv_goto (tgt := 3) hx hb dX11_copies_25 (by decide) ?_
  refine lv_iload hx hb dX11_copies_3 (lv_at hl 0 rfl) ?_
  refine lv_bipush (v := 13) hx hb dX11_copies_5 (by decide) ?_
  refine lv_icmp_ge (tgt := 28) hx hb dX11_copies_7 (by decide) (fun c_ => absurd c_ (by decide +kernel)) (fun _ => ?_)
  refine lv_aload_n hx hb dX11_copies_10 rfl (lv_at hl 3 rfl) ?_
  refine lv_iload_n hx hb dX11_copies_11 rfl (lv_at hl 4 rfl) ?_
  refine lv_iload hx hb dX11_copies_12 (lv_at hl 0 rfl) ?_
  refine lv_iadd hx hb dX11_copies_14 ?_
  refine relit (v := 40) (by decide +kernel) ?_
  refine lv_aload_n hx hb dX11_copies_15 rfl (lv_at hl 1 rfl) ?_
  refine lv_iload_n hx hb dX11_copies_16 rfl (lv_at hl 2 rfl) ?_
  refine lv_iload hx hb dX11_copies_17 (lv_at hl 0 rfl) ?_
  refine lv_iadd hx hb dX11_copies_19 ?_
  refine relit (v := 1) (by decide +kernel) ?_
  refine xilo (v := 0) F hP 0 rfl 1 (by decide +kernel) (by decide +kernel) (by decide) (by decide +kernel) dX11_copies_20 ?_
  refine xist (f' := fun _ => 0) F hP hD hS 1 rfl 40 (by decide +kernel) (by decide +kernel) (by decide) (xup0 _) dX11_copies_21 (fun H locs hP hD hS => ?_)
  have hP : va_P g vwCl [(h1, .inl (aC 0, 13, .inl (fun _ => 0))), (h2, .inl (aC 0, 52, .inl (fun _ => 0)))] H := hP
  have hD : va_D A [(h1, .inl (aC 0, 13, .inl (fun _ => 0))), (h2, .inl (aC 0, 52, .inl (fun _ => 0)))] := hD
  refine lv_iinc (v := 2) (lv' := [(4, .int 2), (0, .ref h1), (1, .int 0), (2, .ref h2), (3, .int 39)]) hx hb dX11_copies_22 hl (k := 0) rfl (by decide +kernel) (by decide) rfl (fun ls hl => ?_)
  refine lv_goto (tgt := 3) hx hb dX11_copies_25 (by decide) ?_
  refine lv_iload hx hb dX11_copies_3 (lv_at hl 0 rfl) ?_
  refine lv_bipush (v := 13) hx hb dX11_copies_5 (by decide) ?_
  refine lv_icmp_ge (tgt := 28) hx hb dX11_copies_7 (by decide) (fun c_ => absurd c_ (by decide +kernel)) (fun _ => ?_)
  refine lv_aload_n hx hb dX11_copies_10 rfl (lv_at hl 3 rfl) ?_
  refine lv_iload_n hx hb dX11_copies_11 rfl (lv_at hl 4 rfl) ?_
  refine lv_iload hx hb dX11_copies_12 (lv_at hl 0 rfl) ?_
  refine lv_iadd hx hb dX11_copies_14 ?_
  refine relit (v := 41) (by decide +kernel) ?_
  refine lv_aload_n hx hb dX11_copies_15 rfl (lv_at hl 1 rfl) ?_
  refine lv_iload_n hx hb dX11_copies_16 rfl (lv_at hl 2 rfl) ?_
  refine lv_iload hx hb dX11_copies_17 (lv_at hl 0 rfl) ?_
  refine lv_iadd hx hb dX11_copies_19 ?_
  refine relit (v := 2) (by decide +kernel) ?_
  refine xilo (v := 0) F hP 0 rfl 2 (by decide +kernel) (by decide +kernel) (by decide) (by decide +kernel) dX11_copies_20 ?_
  refine xist (f' := fun _ => 0) F hP hD hS 1 rfl 41 (by decide +kernel) (by decide +kernel) (by decide) (xup0 _) dX11_copies_21 (fun H locs hP hD hS => ?_)
  have hP : va_P g vwCl [(h1, .inl (aC 0, 13, .inl (fun _ => 0))), (h2, .inl (aC 0, 52, .inl (fun _ => 0)))] H := hP
  have hD : va_D A [(h1, .inl (aC 0, 13, .inl (fun _ => 0))), (h2, .inl (aC 0, 52, .inl (fun _ => 0)))] := hD
  refine lv_iinc (v := 3) (lv' := [(4, .int 3), (0, .ref h1), (1, .int 0), (2, .ref h2), (3, .int 39)]) hx hb dX11_copies_22 hl (k := 0) rfl (by decide +kernel) (by decide) rfl (fun ls hl => ?_)
  refine lv_goto (tgt := 3) hx hb dX11_copies_25 (by decide) ?_
  refine lv_iload hx hb dX11_copies_3 (lv_at hl 0 rfl) ?_
  refine lv_bipush (v := 13) hx hb dX11_copies_5 (by decide) ?_
  refine lv_icmp_ge (tgt := 28) hx hb dX11_copies_7 (by decide) (fun c_ => absurd c_ (by decide +kernel)) (fun _ => ?_)
  refine lv_aload_n hx hb dX11_copies_10 rfl (lv_at hl 3 rfl) ?_
  refine lv_iload_n hx hb dX11_copies_11 rfl (lv_at hl 4 rfl) ?_
  refine lv_iload hx hb dX11_copies_12 (lv_at hl 0 rfl) ?_
  refine lv_iadd hx hb dX11_copies_14 ?_
  refine relit (v := 42) (by decide +kernel) ?_
  refine lv_aload_n hx hb dX11_copies_15 rfl (lv_at hl 1 rfl) ?_
  refine lv_iload_n hx hb dX11_copies_16 rfl (lv_at hl 2 rfl) ?_
  refine lv_iload hx hb dX11_copies_17 (lv_at hl 0 rfl) ?_
  refine lv_iadd hx hb dX11_copies_19 ?_
  refine relit (v := 3) (by decide +kernel) ?_
  refine xilo (v := 0) F hP 0 rfl 3 (by decide +kernel) (by decide +kernel) (by decide) (by decide +kernel) dX11_copies_20 ?_
  refine xist (f' := fun _ => 0) F hP hD hS 1 rfl 42 (by decide +kernel) (by decide +kernel) (by decide) (xup0 _) dX11_copies_21 (fun H locs hP hD hS => ?_)
  have hP : va_P g vwCl [(h1, .inl (aC 0, 13, .inl (fun _ => 0))), (h2, .inl (aC 0, 52, .inl (fun _ => 0)))] H := hP
  have hD : va_D A [(h1, .inl (aC 0, 13, .inl (fun _ => 0))), (h2, .inl (aC 0, 52, .inl (fun _ => 0)))] := hD
  refine lv_iinc (v := 4) (lv' := [(4, .int 4), (0, .ref h1), (1, .int 0), (2, .ref h2), (3, .int 39)]) hx hb dX11_copies_22 hl (k := 0) rfl (by decide +kernel) (by decide) rfl (fun ls hl => ?_)
  refine lv_goto (tgt := 3) hx hb dX11_copies_25 (by decide) ?_
  refine lv_iload hx hb dX11_copies_3 (lv_at hl 0 rfl) ?_
  refine lv_bipush (v := 13) hx hb dX11_copies_5 (by decide) ?_
  refine lv_icmp_ge (tgt := 28) hx hb dX11_copies_7 (by decide) (fun c_ => absurd c_ (by decide +kernel)) (fun _ => ?_)
  refine lv_aload_n hx hb dX11_copies_10 rfl (lv_at hl 3 rfl) ?_
  refine lv_iload_n hx hb dX11_copies_11 rfl (lv_at hl 4 rfl) ?_
  refine lv_iload hx hb dX11_copies_12 (lv_at hl 0 rfl) ?_
  refine lv_iadd hx hb dX11_copies_14 ?_
  refine relit (v := 43) (by decide +kernel) ?_
  refine lv_aload_n hx hb dX11_copies_15 rfl (lv_at hl 1 rfl) ?_
  refine lv_iload_n hx hb dX11_copies_16 rfl (lv_at hl 2 rfl) ?_
  refine lv_iload hx hb dX11_copies_17 (lv_at hl 0 rfl) ?_
  refine lv_iadd hx hb dX11_copies_19 ?_
  refine relit (v := 4) (by decide +kernel) ?_
  refine xilo (v := 0) F hP 0 rfl 4 (by decide +kernel) (by decide +kernel) (by decide) (by decide +kernel) dX11_copies_20 ?_
  refine xist (f' := fun _ => 0) F hP hD hS 1 rfl 43 (by decide +kernel) (by decide +kernel) (by decide) (xup0 _) dX11_copies_21 (fun H locs hP hD hS => ?_)
  have hP : va_P g vwCl [(h1, .inl (aC 0, 13, .inl (fun _ => 0))), (h2, .inl (aC 0, 52, .inl (fun _ => 0)))] H := hP
  have hD : va_D A [(h1, .inl (aC 0, 13, .inl (fun _ => 0))), (h2, .inl (aC 0, 52, .inl (fun _ => 0)))] := hD
  refine lv_iinc (v := 5) (lv' := [(4, .int 5), (0, .ref h1), (1, .int 0), (2, .ref h2), (3, .int 39)]) hx hb dX11_copies_22 hl (k := 0) rfl (by decide +kernel) (by decide) rfl (fun ls hl => ?_)
  refine lv_goto (tgt := 3) hx hb dX11_copies_25 (by decide) ?_
  refine lv_iload hx hb dX11_copies_3 (lv_at hl 0 rfl) ?_
  refine lv_bipush (v := 13) hx hb dX11_copies_5 (by decide) ?_
  refine lv_icmp_ge (tgt := 28) hx hb dX11_copies_7 (by decide) (fun c_ => absurd c_ (by decide +kernel)) (fun _ => ?_)
  refine lv_aload_n hx hb dX11_copies_10 rfl (lv_at hl 3 rfl) ?_
  refine lv_iload_n hx hb dX11_copies_11 rfl (lv_at hl 4 rfl) ?_
  refine lv_iload hx hb dX11_copies_12 (lv_at hl 0 rfl) ?_
  refine lv_iadd hx hb dX11_copies_14 ?_
  refine relit (v := 44) (by decide +kernel) ?_
  refine lv_aload_n hx hb dX11_copies_15 rfl (lv_at hl 1 rfl) ?_
  refine lv_iload_n hx hb dX11_copies_16 rfl (lv_at hl 2 rfl) ?_
  refine lv_iload hx hb dX11_copies_17 (lv_at hl 0 rfl) ?_
  refine lv_iadd hx hb dX11_copies_19 ?_
  refine relit (v := 5) (by decide +kernel) ?_
  refine xilo (v := 0) F hP 0 rfl 5 (by decide +kernel) (by decide +kernel) (by decide) (by decide +kernel) dX11_copies_20 ?_
  refine xist (f' := fun _ => 0) F hP hD hS 1 rfl 44 (by decide +kernel) (by decide +kernel) (by decide) (xup0 _) dX11_copies_21 (fun H locs hP hD hS => ?_)
  have hP : va_P g vwCl [(h1, .inl (aC 0, 13, .inl (fun _ => 0))), (h2, .inl (aC 0, 52, .inl (fun _ => 0)))] H := hP
  have hD : va_D A [(h1, .inl (aC 0, 13, .inl (fun _ => 0))), (h2, .inl (aC 0, 52, .inl (fun _ => 0)))] := hD
  refine lv_iinc (v := 6) (lv' := [(4, .int 6), (0, .ref h1), (1, .int 0), (2, .ref h2), (3, .int 39)]) hx hb dX11_copies_22 hl (k := 0) rfl (by decide +kernel) (by decide) rfl (fun ls hl => ?_)
  refine lv_goto (tgt := 3) hx hb dX11_copies_25 (by decide) ?_
  refine lv_iload hx hb dX11_copies_3 (lv_at hl 0 rfl) ?_
  refine lv_bipush (v := 13) hx hb dX11_copies_5 (by decide) ?_
  refine lv_icmp_ge (tgt := 28) hx hb dX11_copies_7 (by decide) (fun c_ => absurd c_ (by decide +kernel)) (fun _ => ?_)
  refine lv_aload_n hx hb dX11_copies_10 rfl (lv_at hl 3 rfl) ?_
  refine lv_iload_n hx hb dX11_copies_11 rfl (lv_at hl 4 rfl) ?_
  refine lv_iload hx hb dX11_copies_12 (lv_at hl 0 rfl) ?_
  refine lv_iadd hx hb dX11_copies_14 ?_
  refine relit (v := 45) (by decide +kernel) ?_
  refine lv_aload_n hx hb dX11_copies_15 rfl (lv_at hl 1 rfl) ?_
  refine lv_iload_n hx hb dX11_copies_16 rfl (lv_at hl 2 rfl) ?_
  refine lv_iload hx hb dX11_copies_17 (lv_at hl 0 rfl) ?_
  refine lv_iadd hx hb dX11_copies_19 ?_
  refine relit (v := 6) (by decide +kernel) ?_
  refine xilo (v := 0) F hP 0 rfl 6 (by decide +kernel) (by decide +kernel) (by decide) (by decide +kernel) dX11_copies_20 ?_
  refine xist (f' := fun _ => 0) F hP hD hS 1 rfl 45 (by decide +kernel) (by decide +kernel) (by decide) (xup0 _) dX11_copies_21 (fun H locs hP hD hS => ?_)
  have hP : va_P g vwCl [(h1, .inl (aC 0, 13, .inl (fun _ => 0))), (h2, .inl (aC 0, 52, .inl (fun _ => 0)))] H := hP
  have hD : va_D A [(h1, .inl (aC 0, 13, .inl (fun _ => 0))), (h2, .inl (aC 0, 52, .inl (fun _ => 0)))] := hD
  refine lv_iinc (v := 7) (lv' := [(4, .int 7), (0, .ref h1), (1, .int 0), (2, .ref h2), (3, .int 39)]) hx hb dX11_copies_22 hl (k := 0) rfl (by decide +kernel) (by decide) rfl (fun ls hl => ?_)
  refine lv_goto (tgt := 3) hx hb dX11_copies_25 (by decide) ?_
  refine lv_iload hx hb dX11_copies_3 (lv_at hl 0 rfl) ?_
  refine lv_bipush (v := 13) hx hb dX11_copies_5 (by decide) ?_
  refine lv_icmp_ge (tgt := 28) hx hb dX11_copies_7 (by decide) (fun c_ => absurd c_ (by decide +kernel)) (fun _ => ?_)
  refine lv_aload_n hx hb dX11_copies_10 rfl (lv_at hl 3 rfl) ?_
  refine lv_iload_n hx hb dX11_copies_11 rfl (lv_at hl 4 rfl) ?_
  refine lv_iload hx hb dX11_copies_12 (lv_at hl 0 rfl) ?_
  refine lv_iadd hx hb dX11_copies_14 ?_
  refine relit (v := 46) (by decide +kernel) ?_
  refine lv_aload_n hx hb dX11_copies_15 rfl (lv_at hl 1 rfl) ?_
  refine lv_iload_n hx hb dX11_copies_16 rfl (lv_at hl 2 rfl) ?_
  refine lv_iload hx hb dX11_copies_17 (lv_at hl 0 rfl) ?_
  refine lv_iadd hx hb dX11_copies_19 ?_
  refine relit (v := 7) (by decide +kernel) ?_
  refine xilo (v := 0) F hP 0 rfl 7 (by decide +kernel) (by decide +kernel) (by decide) (by decide +kernel) dX11_copies_20 ?_
  refine xist (f' := fun _ => 0) F hP hD hS 1 rfl 46 (by decide +kernel) (by decide +kernel) (by decide) (xup0 _) dX11_copies_21 (fun H locs hP hD hS => ?_)
  have hP : va_P g vwCl [(h1, .inl (aC 0, 13, .inl (fun _ => 0))), (h2, .inl (aC 0, 52, .inl (fun _ => 0)))] H := hP
  have hD : va_D A [(h1, .inl (aC 0, 13, .inl (fun _ => 0))), (h2, .inl (aC 0, 52, .inl (fun _ => 0)))] := hD
  refine lv_iinc (v := 8) (lv' := [(4, .int 8), (0, .ref h1), (1, .int 0), (2, .ref h2), (3, .int 39)]) hx hb dX11_copies_22 hl (k := 0) rfl (by decide +kernel) (by decide) rfl (fun ls hl => ?_)
  refine lv_goto (tgt := 3) hx hb dX11_copies_25 (by decide) ?_
  refine lv_iload hx hb dX11_copies_3 (lv_at hl 0 rfl) ?_
  refine lv_bipush (v := 13) hx hb dX11_copies_5 (by decide) ?_
  refine lv_icmp_ge (tgt := 28) hx hb dX11_copies_7 (by decide) (fun c_ => absurd c_ (by decide +kernel)) (fun _ => ?_)
  refine lv_aload_n hx hb dX11_copies_10 rfl (lv_at hl 3 rfl) ?_
  refine lv_iload_n hx hb dX11_copies_11 rfl (lv_at hl 4 rfl) ?_
  refine lv_iload hx hb dX11_copies_12 (lv_at hl 0 rfl) ?_
  refine lv_iadd hx hb dX11_copies_14 ?_
  refine relit (v := 47) (by decide +kernel) ?_
  refine lv_aload_n hx hb dX11_copies_15 rfl (lv_at hl 1 rfl) ?_
  refine lv_iload_n hx hb dX11_copies_16 rfl (lv_at hl 2 rfl) ?_
  refine lv_iload hx hb dX11_copies_17 (lv_at hl 0 rfl) ?_
  refine lv_iadd hx hb dX11_copies_19 ?_
  refine relit (v := 8) (by decide +kernel) ?_
  refine xilo (v := 0) F hP 0 rfl 8 (by decide +kernel) (by decide +kernel) (by decide) (by decide +kernel) dX11_copies_20 ?_
  refine xist (f' := fun _ => 0) F hP hD hS 1 rfl 47 (by decide +kernel) (by decide +kernel) (by decide) (xup0 _) dX11_copies_21 (fun H locs hP hD hS => ?_)
  have hP : va_P g vwCl [(h1, .inl (aC 0, 13, .inl (fun _ => 0))), (h2, .inl (aC 0, 52, .inl (fun _ => 0)))] H := hP
  have hD : va_D A [(h1, .inl (aC 0, 13, .inl (fun _ => 0))), (h2, .inl (aC 0, 52, .inl (fun _ => 0)))] := hD
  refine lv_iinc (v := 9) (lv' := [(4, .int 9), (0, .ref h1), (1, .int 0), (2, .ref h2), (3, .int 39)]) hx hb dX11_copies_22 hl (k := 0) rfl (by decide +kernel) (by decide) rfl (fun ls hl => ?_)
  refine lv_goto (tgt := 3) hx hb dX11_copies_25 (by decide) ?_
  refine lv_iload hx hb dX11_copies_3 (lv_at hl 0 rfl) ?_
  refine lv_bipush (v := 13) hx hb dX11_copies_5 (by decide) ?_
  refine lv_icmp_ge (tgt := 28) hx hb dX11_copies_7 (by decide) (fun c_ => absurd c_ (by decide +kernel)) (fun _ => ?_)
  refine lv_aload_n hx hb dX11_copies_10 rfl (lv_at hl 3 rfl) ?_
  refine lv_iload_n hx hb dX11_copies_11 rfl (lv_at hl 4 rfl) ?_
  refine lv_iload hx hb dX11_copies_12 (lv_at hl 0 rfl) ?_
  refine lv_iadd hx hb dX11_copies_14 ?_
  refine relit (v := 48) (by decide +kernel) ?_
  refine lv_aload_n hx hb dX11_copies_15 rfl (lv_at hl 1 rfl) ?_
  refine lv_iload_n hx hb dX11_copies_16 rfl (lv_at hl 2 rfl) ?_
  refine lv_iload hx hb dX11_copies_17 (lv_at hl 0 rfl) ?_
  refine lv_iadd hx hb dX11_copies_19 ?_
  refine relit (v := 9) (by decide +kernel) ?_
  refine xilo (v := 0) F hP 0 rfl 9 (by decide +kernel) (by decide +kernel) (by decide) (by decide +kernel) dX11_copies_20 ?_
  refine xist (f' := fun _ => 0) F hP hD hS 1 rfl 48 (by decide +kernel) (by decide +kernel) (by decide) (xup0 _) dX11_copies_21 (fun H locs hP hD hS => ?_)
  have hP : va_P g vwCl [(h1, .inl (aC 0, 13, .inl (fun _ => 0))), (h2, .inl (aC 0, 52, .inl (fun _ => 0)))] H := hP
  have hD : va_D A [(h1, .inl (aC 0, 13, .inl (fun _ => 0))), (h2, .inl (aC 0, 52, .inl (fun _ => 0)))] := hD
  refine lv_iinc (v := 10) (lv' := [(4, .int 10), (0, .ref h1), (1, .int 0), (2, .ref h2), (3, .int 39)]) hx hb dX11_copies_22 hl (k := 0) rfl (by decide +kernel) (by decide) rfl (fun ls hl => ?_)
  refine lv_goto (tgt := 3) hx hb dX11_copies_25 (by decide) ?_
  refine lv_iload hx hb dX11_copies_3 (lv_at hl 0 rfl) ?_
  refine lv_bipush (v := 13) hx hb dX11_copies_5 (by decide) ?_
  refine lv_icmp_ge (tgt := 28) hx hb dX11_copies_7 (by decide) (fun c_ => absurd c_ (by decide +kernel)) (fun _ => ?_)
  refine lv_aload_n hx hb dX11_copies_10 rfl (lv_at hl 3 rfl) ?_
  refine lv_iload_n hx hb dX11_copies_11 rfl (lv_at hl 4 rfl) ?_
  refine lv_iload hx hb dX11_copies_12 (lv_at hl 0 rfl) ?_
  refine lv_iadd hx hb dX11_copies_14 ?_
  refine relit (v := 49) (by decide +kernel) ?_
  refine lv_aload_n hx hb dX11_copies_15 rfl (lv_at hl 1 rfl) ?_
  refine lv_iload_n hx hb dX11_copies_16 rfl (lv_at hl 2 rfl) ?_
  refine lv_iload hx hb dX11_copies_17 (lv_at hl 0 rfl) ?_
  refine lv_iadd hx hb dX11_copies_19 ?_
  refine relit (v := 10) (by decide +kernel) ?_
  refine xilo (v := 0) F hP 0 rfl 10 (by decide +kernel) (by decide +kernel) (by decide) (by decide +kernel) dX11_copies_20 ?_
  refine xist (f' := fun _ => 0) F hP hD hS 1 rfl 49 (by decide +kernel) (by decide +kernel) (by decide) (xup0 _) dX11_copies_21 (fun H locs hP hD hS => ?_)
  have hP : va_P g vwCl [(h1, .inl (aC 0, 13, .inl (fun _ => 0))), (h2, .inl (aC 0, 52, .inl (fun _ => 0)))] H := hP
  have hD : va_D A [(h1, .inl (aC 0, 13, .inl (fun _ => 0))), (h2, .inl (aC 0, 52, .inl (fun _ => 0)))] := hD
  refine lv_iinc (v := 11) (lv' := [(4, .int 11), (0, .ref h1), (1, .int 0), (2, .ref h2), (3, .int 39)]) hx hb dX11_copies_22 hl (k := 0) rfl (by decide +kernel) (by decide) rfl (fun ls hl => ?_)
  refine lv_goto (tgt := 3) hx hb dX11_copies_25 (by decide) ?_
  refine lv_iload hx hb dX11_copies_3 (lv_at hl 0 rfl) ?_
  refine lv_bipush (v := 13) hx hb dX11_copies_5 (by decide) ?_
  refine lv_icmp_ge (tgt := 28) hx hb dX11_copies_7 (by decide) (fun c_ => absurd c_ (by decide +kernel)) (fun _ => ?_)
  refine lv_aload_n hx hb dX11_copies_10 rfl (lv_at hl 3 rfl) ?_
  refine lv_iload_n hx hb dX11_copies_11 rfl (lv_at hl 4 rfl) ?_
  refine lv_iload hx hb dX11_copies_12 (lv_at hl 0 rfl) ?_
  refine lv_iadd hx hb dX11_copies_14 ?_
  refine relit (v := 50) (by decide +kernel) ?_
  refine lv_aload_n hx hb dX11_copies_15 rfl (lv_at hl 1 rfl) ?_
  refine lv_iload_n hx hb dX11_copies_16 rfl (lv_at hl 2 rfl) ?_
  refine lv_iload hx hb dX11_copies_17 (lv_at hl 0 rfl) ?_
  refine lv_iadd hx hb dX11_copies_19 ?_
  refine relit (v := 11) (by decide +kernel) ?_
  refine xilo (v := 0) F hP 0 rfl 11 (by decide +kernel) (by decide +kernel) (by decide) (by decide +kernel) dX11_copies_20 ?_
  refine xist (f' := fun _ => 0) F hP hD hS 1 rfl 50 (by decide +kernel) (by decide +kernel) (by decide) (xup0 _) dX11_copies_21 (fun H locs hP hD hS => ?_)
  have hP : va_P g vwCl [(h1, .inl (aC 0, 13, .inl (fun _ => 0))), (h2, .inl (aC 0, 52, .inl (fun _ => 0)))] H := hP
  have hD : va_D A [(h1, .inl (aC 0, 13, .inl (fun _ => 0))), (h2, .inl (aC 0, 52, .inl (fun _ => 0)))] := hD
  refine lv_iinc (v := 12) (lv' := [(4, .int 12), (0, .ref h1), (1, .int 0), (2, .ref h2), (3, .int 39)]) hx hb dX11_copies_22 hl (k := 0) rfl (by decide +kernel) (by decide) rfl (fun ls hl => ?_)
  refine lv_goto (tgt := 3) hx hb dX11_copies_25 (by decide) ?_
  refine lv_iload hx hb dX11_copies_3 (lv_at hl 0 rfl) ?_
  refine lv_bipush (v := 13) hx hb dX11_copies_5 (by decide) ?_
  refine lv_icmp_ge (tgt := 28) hx hb dX11_copies_7 (by decide) (fun c_ => absurd c_ (by decide +kernel)) (fun _ => ?_)
  refine lv_aload_n hx hb dX11_copies_10 rfl (lv_at hl 3 rfl) ?_
  refine lv_iload_n hx hb dX11_copies_11 rfl (lv_at hl 4 rfl) ?_
  refine lv_iload hx hb dX11_copies_12 (lv_at hl 0 rfl) ?_
  refine lv_iadd hx hb dX11_copies_14 ?_
  refine relit (v := 51) (by decide +kernel) ?_
  refine lv_aload_n hx hb dX11_copies_15 rfl (lv_at hl 1 rfl) ?_
  refine lv_iload_n hx hb dX11_copies_16 rfl (lv_at hl 2 rfl) ?_
  refine lv_iload hx hb dX11_copies_17 (lv_at hl 0 rfl) ?_
  refine lv_iadd hx hb dX11_copies_19 ?_
  refine relit (v := 12) (by decide +kernel) ?_
  refine xilo (v := 0) F hP 0 rfl 12 (by decide +kernel) (by decide +kernel) (by decide) (by decide +kernel) dX11_copies_20 ?_
  refine xist (f' := fun _ => 0) F hP hD hS 1 rfl 51 (by decide +kernel) (by decide +kernel) (by decide) (xup0 _) dX11_copies_21 (fun H locs hP hD hS => ?_)
  have hP : va_P g vwCl [(h1, .inl (aC 0, 13, .inl (fun _ => 0))), (h2, .inl (aC 0, 52, .inl (fun _ => 0)))] H := hP
  have hD : va_D A [(h1, .inl (aC 0, 13, .inl (fun _ => 0))), (h2, .inl (aC 0, 52, .inl (fun _ => 0)))] := hD
  refine lv_iinc (v := 13) (lv' := [(4, .int 13), (0, .ref h1), (1, .int 0), (2, .ref h2), (3, .int 39)]) hx hb dX11_copies_22 hl (k := 0) rfl (by decide +kernel) (by decide) rfl (fun ls hl => ?_)
  refine lv_goto (tgt := 3) hx hb dX11_copies_25 (by decide) ?_
  refine lv_iload hx hb dX11_copies_3 (lv_at hl 0 rfl) ?_
  refine lv_bipush (v := 13) hx hb dX11_copies_5 (by decide) ?_
  refine lv_icmp_ge (tgt := 28) hx hb dX11_copies_7 (by decide) (fun _ => ?_) (fun c_ => absurd (by decide +kernel) c_)
  have hP9 := hP.sub (ws' := [(h1, .inl (aC 0, 13, .inl (fun _ => 0))), (h2, .inl (aC 0, 52, .inl (fun _ => 0)))]) [0, 1] rfl
  have hD9 := hD.sub (ws' := [(h1, .inl (aC 0, 13, .inl (fun _ => 0))), (h2, .inl (aC 0, 52, .inl (fun _ => 0)))]) [0, 1] (by decide) rfl
  exact rV () hx hb hr hlk hS trivial hP9 hD9 (Nat.le_of_ble_eq_true rfl) (Nat.le_of_ble_eq_true rfl) dX11_copies_28

theorem dX11_mark_18 : decode cX11_mark 18 = .ok (.aload_n 0, 1) := by decide +kernel
theorem dX11_mark_19 : decode cX11_mark 19 = .ok (.getfield 153, 3) := by decide +kernel
theorem dX11_mark_22 : decode cX11_mark 22 = .ok (.iload_n 1, 1) := by decide +kernel
theorem dX11_mark_23 : decode cX11_mark 23 = .ok (.baload, 1) := by decide +kernel
theorem dX11_mark_24 : decode cX11_mark 24 = .ok (.ifCond .ne 5, 3) := by decide +kernel
set_option maxHeartbeats 4000000 in
set_option maxRecDepth 100000 in
theorem m_mark_lo0 (l : Launch) (g : va_G) (aC : Nat → ClassId) (aM : Nat → Nat) (h1 h47 h48 h49 h50 h51 h52 h53 h54 h55 h56 h58 h60 : Nat) (x2 x3 x4 x5 x6 x7 x8 x9 x10 x11 x12 x13 x14 x15 x16 x17 x18 x19 x20 x21 x22 x23 x24 x25 x26 x27 x28 x29 x30 x31 x32 x33 x34 x35 x36 x37 x38 x39 x40 x41 x42 x43 x44 x45 x46 x57 x59 x61 x62 x63 x64 x65 x66 x67 x68 x69 x70 x71 x72 x73 x74 : Value) (n_1 : Int32) (hh1 : n_1 ≤ (-1)) : Ct l g aC aM yX11_mark cX11_mark 5 (some .boolean) 2 [.ref h1, .int n_1, .int 0] [(h1, .inr (11, [.int 0, x2, x3, x4, x5, x6, x7, x8, x9, x10, x11, x12, x13, x14, x15, x16, x17, x18, x19, x20, x21, x22, x23, x24, x25, x26, x27, x28, x29, x30, x31, x32, x33, x34, x35, x36, x37, x38, x39, x40, x41, x42, x43, x44, x45, x46, .ref h47, .ref h48, .ref h49, .ref h50, .ref h51, .ref h52, .ref h53, .ref h54, .ref h55, .ref h56, x57, .ref h58, x59, .ref h60, x61, x62, x63, x64, x65, x66, x67, x68, x69, x70, x71, x72, x73, x74])), (h47, .inl (aC 0, 6, .inl (fun _ => 0))), (h48, .inl (aC 0, 240, .inl (fun _ => 0))), (h49, .inl (aC 0, 240, .inl (fun _ => 0))), (h50, .inl (aC 0, 240, .inl (fun _ => 0))), (h51, .inl (aC 0, 240, .inl (fun _ => 0))), (h52, .inl (aC 0, 5, .inl (fun _ => 0))), (h53, .inl (aC 0, 40, .inl (fun _ => 0))), (h54, .inl (aC 0, 40, .inl (fun _ => 0))), (h55, .inl (aC 3, 40, .inl (fun _ => 0))), (h56, .inl (aC 0, 13, .inl (fun _ => 0))), (h58, .inl (aC 0, 52, .inl (fun _ => 0))), (h60, .inl (aC 3, 4, .inl (fun _ => 0)))] (QI g (fun (r : Int32) (_ : Unit) => r = 0) (fun (_ : Unit) => [])) 0 0 := by
  refine Ct.mk (by decide) (Nat.le_of_ble_eq_true rfl) ?_
  intro p e s m below meth c A ls hx hb hml hown hts hr hlk hnm hK hA hM hM2 hP hD hS hl
  have hown : s.vm.findClass RX11 = some m.cls := hown
  have F : Fx p s m _ c cX11_mark 5 RX11 g aC aM A := ⟨hx, hb, hml, hown, hts, hK, hA, hM, hM2⟩
  have hl : lv_has ls 5 [(0, .ref h1), (1, .int n_1), (2, .int 0)] := hl
  refine lv_aload_n hx hb dX11_mark_0 rfl (lv_at hl 0 rfl) ?_
  refine lv_iconst (v := 0) hx hb dX11_mark_1 (by decide) ?_
  refine xput F hP hD hS 0 rfl rfl inX11 tyX11_ok nmX11 0 (by decide) tb1182 rfl rfl rfl (Nat.le_of_ble_eq_true rfl) dX11_mark_2 (fun H locs hP hD hS => ?_)
  have hP : va_P g vwCl [(h1, .inr (11, [.int 0, x2, x3, x4, x5, x6, x7, x8, x9, x10, x11, x12, x13, x14, x15, x16, x17, x18, x19, x20, x21, x22, x23, x24, x25, x26, x27, x28, x29, x30, x31, x32, x33, x34, x35, x36, x37, x38, x39, x40, x41, x42, x43, x44, x45, x46, .ref h47, .ref h48, .ref h49, .ref h50, .ref h51, .ref h52, .ref h53, .ref h54, .ref h55, .ref h56, x57, .ref h58, x59, .ref h60, x61, x62, x63, x64, x65, x66, x67, x68, x69, x70, x71, x72, x73, x74])), (h47, .inl (aC 0, 6, .inl (fun _ => 0))), (h48, .inl (aC 0, 240, .inl (fun _ => 0))), (h49, .inl (aC 0, 240, .inl (fun _ => 0))), (h50, .inl (aC 0, 240, .inl (fun _ => 0))), (h51, .inl (aC 0, 240, .inl (fun _ => 0))), (h52, .inl (aC 0, 5, .inl (fun _ => 0))), (h53, .inl (aC 0, 40, .inl (fun _ => 0))), (h54, .inl (aC 0, 40, .inl (fun _ => 0))), (h55, .inl (aC 3, 40, .inl (fun _ => 0))), (h56, .inl (aC 0, 13, .inl (fun _ => 0))), (h58, .inl (aC 0, 52, .inl (fun _ => 0))), (h60, .inl (aC 3, 4, .inl (fun _ => 0)))] H := hP
  have hD : va_D A [(h1, .inr (11, [.int 0, x2, x3, x4, x5, x6, x7, x8, x9, x10, x11, x12, x13, x14, x15, x16, x17, x18, x19, x20, x21, x22, x23, x24, x25, x26, x27, x28, x29, x30, x31, x32, x33, x34, x35, x36, x37, x38, x39, x40, x41, x42, x43, x44, x45, x46, .ref h47, .ref h48, .ref h49, .ref h50, .ref h51, .ref h52, .ref h53, .ref h54, .ref h55, .ref h56, x57, .ref h58, x59, .ref h60, x61, x62, x63, x64, x65, x66, x67, x68, x69, x70, x71, x72, x73, x74])), (h47, .inl (aC 0, 6, .inl (fun _ => 0))), (h48, .inl (aC 0, 240, .inl (fun _ => 0))), (h49, .inl (aC 0, 240, .inl (fun _ => 0))), (h50, .inl (aC 0, 240, .inl (fun _ => 0))), (h51, .inl (aC 0, 240, .inl (fun _ => 0))), (h52, .inl (aC 0, 5, .inl (fun _ => 0))), (h53, .inl (aC 0, 40, .inl (fun _ => 0))), (h54, .inl (aC 0, 40, .inl (fun _ => 0))), (h55, .inl (aC 3, 40, .inl (fun _ => 0))), (h56, .inl (aC 0, 13, .inl (fun _ => 0))), (h58, .inl (aC 0, 52, .inl (fun _ => 0))), (h60, .inl (aC 3, 4, .inl (fun _ => 0)))] := hD
  refine lv_iload_n hx hb dX11_mark_5 rfl (lv_at hl 1 rfl) ?_
  refine lv_iconst (v := 0) hx hb dX11_mark_6 (by decide) ?_
  refine lv_iconst (v := 3) hx hb dX11_mark_7 (by decide) ?_
  refine goI (wr := [(h1, .inr (11, [.int 0, x2, x3, x4, x5, x6, x7, x8, x9, x10, x11, x12, x13, x14, x15, x16, x17, x18, x19, x20, x21, x22, x23, x24, x25, x26, x27, x28, x29, x30, x31, x32, x33, x34, x35, x36, x37, x38, x39, x40, x41, x42, x43, x44, x45, x46, .ref h47, .ref h48, .ref h49, .ref h50, .ref h51, .ref h52, .ref h53, .ref h54, .ref h55, .ref h56, x57, .ref h58, x59, .ref h60, x61, x62, x63, x64, x65, x66, x67, x68, x69, x70, x71, x72, x73, x74])), (h47, .inl (aC 0, 6, .inl (fun _ => 0))), (h48, .inl (aC 0, 240, .inl (fun _ => 0))), (h49, .inl (aC 0, 240, .inl (fun _ => 0))), (h50, .inl (aC 0, 240, .inl (fun _ => 0))), (h51, .inl (aC 0, 240, .inl (fun _ => 0))), (h52, .inl (aC 0, 5, .inl (fun _ => 0))), (h53, .inl (aC 0, 40, .inl (fun _ => 0))), (h54, .inl (aC 0, 40, .inl (fun _ => 0))), (h55, .inl (aC 3, 40, .inl (fun _ => 0))), (h56, .inl (aC 0, 13, .inl (fun _ => 0))), (h58, .inl (aC 0, 52, .inl (fun _ => 0))), (h60, .inl (aC 3, 4, .inl (fun _ => 0)))]) (runS (n := 3) (As := [.int n_1, .int 0, .int 3]) (rest := []) F hP hD hS (k_within_lo l g aC aM n_1 0 3 (by have a0_ := hh1; simp only [Int32.lt_iff_toInt_lt, Int32.le_iff_toInt_le, ← Int32.toInt_inj, show (-1 : Int32).toInt = -1 by decide, show (0 : Int32).toInt = 0 by decide, show (3 : Int32).toInt = 3 by decide] at a0_ ⊢; omega)) [] (by decide) rfl tb1511 tb1509 tb1510 tb17 ⟨by decide, by decide, by decide +kernel⟩ ⟨Nat.le_of_ble_eq_true rfl, Nat.le_of_ble_eq_true rfl⟩ rfl hl.1 rfl (Nat.le_of_ble_eq_true rfl) dX11_mark_8 ⟨Nat.le_of_ble_eq_true rfl, Nat.le_of_ble_eq_true rfl⟩) hP hD hS hA [] [0, 1, 2, 3, 4, 5, 6, 7, 8, 9, 10, 11, 12] rfl rfl (by decide) (by decide) (fun r_2 w3 H locs hw hP hD hS => ?_)
  have hP : va_P g vwCl [(h1, .inr (11, [.int 0, x2, x3, x4, x5, x6, x7, x8, x9, x10, x11, x12, x13, x14, x15, x16, x17, x18, x19, x20, x21, x22, x23, x24, x25, x26, x27, x28, x29, x30, x31, x32, x33, x34, x35, x36, x37, x38, x39, x40, x41, x42, x43, x44, x45, x46, .ref h47, .ref h48, .ref h49, .ref h50, .ref h51, .ref h52, .ref h53, .ref h54, .ref h55, .ref h56, x57, .ref h58, x59, .ref h60, x61, x62, x63, x64, x65, x66, x67, x68, x69, x70, x71, x72, x73, x74])), (h47, .inl (aC 0, 6, .inl (fun _ => 0))), (h48, .inl (aC 0, 240, .inl (fun _ => 0))), (h49, .inl (aC 0, 240, .inl (fun _ => 0))), (h50, .inl (aC 0, 240, .inl (fun _ => 0))), (h51, .inl (aC 0, 240, .inl (fun _ => 0))), (h52, .inl (aC 0, 5, .inl (fun _ => 0))), (h53, .inl (aC 0, 40, .inl (fun _ => 0))), (h54, .inl (aC 0, 40, .inl (fun _ => 0))), (h55, .inl (aC 3, 40, .inl (fun _ => 0))), (h56, .inl (aC 0, 13, .inl (fun _ => 0))), (h58, .inl (aC 0, 52, .inl (fun _ => 0))), (h60, .inl (aC 3, 4, .inl (fun _ => 0)))] H := hP
  have hD : va_D A [(h1, .inr (11, [.int 0, x2, x3, x4, x5, x6, x7, x8, x9, x10, x11, x12, x13, x14, x15, x16, x17, x18, x19, x20, x21, x22, x23, x24, x25, x26, x27, x28, x29, x30, x31, x32, x33, x34, x35, x36, x37, x38, x39, x40, x41, x42, x43, x44, x45, x46, .ref h47, .ref h48, .ref h49, .ref h50, .ref h51, .ref h52, .ref h53, .ref h54, .ref h55, .ref h56, x57, .ref h58, x59, .ref h60, x61, x62, x63, x64, x65, x66, x67, x68, x69, x70, x71, x72, x73, x74])), (h47, .inl (aC 0, 6, .inl (fun _ => 0))), (h48, .inl (aC 0, 240, .inl (fun _ => 0))), (h49, .inl (aC 0, 240, .inl (fun _ => 0))), (h50, .inl (aC 0, 240, .inl (fun _ => 0))), (h51, .inl (aC 0, 240, .inl (fun _ => 0))), (h52, .inl (aC 0, 5, .inl (fun _ => 0))), (h53, .inl (aC 0, 40, .inl (fun _ => 0))), (h54, .inl (aC 0, 40, .inl (fun _ => 0))), (h55, .inl (aC 3, 40, .inl (fun _ => 0))), (h56, .inl (aC 0, 13, .inl (fun _ => 0))), (h58, .inl (aC 0, 52, .inl (fun _ => 0))), (h60, .inl (aC 3, 4, .inl (fun _ => 0)))] := hD
  try dsimp only at hw
  subst hw
  refine lv_if_eq (tgt := 27) hx hb dX11_mark_11 (by decide) (fun _ => ?_) (fun c_ => absurd (by decide +kernel) c_)
  refine lv_iconst (v := 0) hx hb dX11_mark_27 (by decide) ?_
  have hP9 := hP.sub (ws' := []) [] rfl
  have hD9 := hD.sub (ws' := []) [] (by decide) rfl
  exact rI () hx hb hr hlk rfl hS rfl hP9 hD9 (Nat.le_of_ble_eq_true rfl) (Nat.le_of_ble_eq_true rfl) dX11_mark_28

set_option maxHeartbeats 4000000 in
set_option maxRecDepth 100000 in
theorem m_mark_hi0 (l : Launch) (g : va_G) (aC : Nat → ClassId) (aM : Nat → Nat) (h1 h47 h48 h49 h50 h51 h52 h53 h54 h55 h56 h58 h60 : Nat) (x2 x3 x4 x5 x6 x7 x8 x9 x10 x11 x12 x13 x14 x15 x16 x17 x18 x19 x20 x21 x22 x23 x24 x25 x26 x27 x28 x29 x30 x31 x32 x33 x34 x35 x36 x37 x38 x39 x40 x41 x42 x43 x44 x45 x46 x57 x59 x61 x62 x63 x64 x65 x66 x67 x68 x69 x70 x71 x72 x73 x74 : Value) (n_1 : Int32) (hl1 : 4 ≤ n_1) : Ct l g aC aM yX11_mark cX11_mark 5 (some .boolean) 2 [.ref h1, .int n_1, .int 0] [(h1, .inr (11, [.int 0, x2, x3, x4, x5, x6, x7, x8, x9, x10, x11, x12, x13, x14, x15, x16, x17, x18, x19, x20, x21, x22, x23, x24, x25, x26, x27, x28, x29, x30, x31, x32, x33, x34, x35, x36, x37, x38, x39, x40, x41, x42, x43, x44, x45, x46, .ref h47, .ref h48, .ref h49, .ref h50, .ref h51, .ref h52, .ref h53, .ref h54, .ref h55, .ref h56, x57, .ref h58, x59, .ref h60, x61, x62, x63, x64, x65, x66, x67, x68, x69, x70, x71, x72, x73, x74])), (h47, .inl (aC 0, 6, .inl (fun _ => 0))), (h48, .inl (aC 0, 240, .inl (fun _ => 0))), (h49, .inl (aC 0, 240, .inl (fun _ => 0))), (h50, .inl (aC 0, 240, .inl (fun _ => 0))), (h51, .inl (aC 0, 240, .inl (fun _ => 0))), (h52, .inl (aC 0, 5, .inl (fun _ => 0))), (h53, .inl (aC 0, 40, .inl (fun _ => 0))), (h54, .inl (aC 0, 40, .inl (fun _ => 0))), (h55, .inl (aC 3, 40, .inl (fun _ => 0))), (h56, .inl (aC 0, 13, .inl (fun _ => 0))), (h58, .inl (aC 0, 52, .inl (fun _ => 0))), (h60, .inl (aC 3, 4, .inl (fun _ => 0)))] (QI g (fun (r : Int32) (_ : Unit) => r = 0) (fun (_ : Unit) => [])) 0 0 := by
  refine Ct.mk (by decide) (Nat.le_of_ble_eq_true rfl) ?_
  intro p e s m below meth c A ls hx hb hml hown hts hr hlk hnm hK hA hM hM2 hP hD hS hl
  have hown : s.vm.findClass RX11 = some m.cls := hown
  have F : Fx p s m _ c cX11_mark 5 RX11 g aC aM A := ⟨hx, hb, hml, hown, hts, hK, hA, hM, hM2⟩
  have hl : lv_has ls 5 [(0, .ref h1), (1, .int n_1), (2, .int 0)] := hl
  refine lv_aload_n hx hb dX11_mark_0 rfl (lv_at hl 0 rfl) ?_
  refine lv_iconst (v := 0) hx hb dX11_mark_1 (by decide) ?_
  refine xput F hP hD hS 0 rfl rfl inX11 tyX11_ok nmX11 0 (by decide) tb1182 rfl rfl rfl (Nat.le_of_ble_eq_true rfl) dX11_mark_2 (fun H locs hP hD hS => ?_)
  have hP : va_P g vwCl [(h1, .inr (11, [.int 0, x2, x3, x4, x5, x6, x7, x8, x9, x10, x11, x12, x13, x14, x15, x16, x17, x18, x19, x20, x21, x22, x23, x24, x25, x26, x27, x28, x29, x30, x31, x32, x33, x34, x35, x36, x37, x38, x39, x40, x41, x42, x43, x44, x45, x46, .ref h47, .ref h48, .ref h49, .ref h50, .ref h51, .ref h52, .ref h53, .ref h54, .ref h55, .ref h56, x57, .ref h58, x59, .ref h60, x61, x62, x63, x64, x65, x66, x67, x68, x69, x70, x71, x72, x73, x74])), (h47, .inl (aC 0, 6, .inl (fun _ => 0))), (h48, .inl (aC 0, 240, .inl (fun _ => 0))), (h49, .inl (aC 0, 240, .inl (fun _ => 0))), (h50, .inl (aC 0, 240, .inl (fun _ => 0))), (h51, .inl (aC 0, 240, .inl (fun _ => 0))), (h52, .inl (aC 0, 5, .inl (fun _ => 0))), (h53, .inl (aC 0, 40, .inl (fun _ => 0))), (h54, .inl (aC 0, 40, .inl (fun _ => 0))), (h55, .inl (aC 3, 40, .inl (fun _ => 0))), (h56, .inl (aC 0, 13, .inl (fun _ => 0))), (h58, .inl (aC 0, 52, .inl (fun _ => 0))), (h60, .inl (aC 3, 4, .inl (fun _ => 0)))] H := hP
  have hD : va_D A [(h1, .inr (11, [.int 0, x2, x3, x4, x5, x6, x7, x8, x9, x10, x11, x12, x13, x14, x15, x16, x17, x18, x19, x20, x21, x22, x23, x24, x25, x26, x27, x28, x29, x30, x31, x32, x33, x34, x35, x36, x37, x38, x39, x40, x41, x42, x43, x44, x45, x46, .ref h47, .ref h48, .ref h49, .ref h50, .ref h51, .ref h52, .ref h53, .ref h54, .ref h55, .ref h56, x57, .ref h58, x59, .ref h60, x61, x62, x63, x64, x65, x66, x67, x68, x69, x70, x71, x72, x73, x74])), (h47, .inl (aC 0, 6, .inl (fun _ => 0))), (h48, .inl (aC 0, 240, .inl (fun _ => 0))), (h49, .inl (aC 0, 240, .inl (fun _ => 0))), (h50, .inl (aC 0, 240, .inl (fun _ => 0))), (h51, .inl (aC 0, 240, .inl (fun _ => 0))), (h52, .inl (aC 0, 5, .inl (fun _ => 0))), (h53, .inl (aC 0, 40, .inl (fun _ => 0))), (h54, .inl (aC 0, 40, .inl (fun _ => 0))), (h55, .inl (aC 3, 40, .inl (fun _ => 0))), (h56, .inl (aC 0, 13, .inl (fun _ => 0))), (h58, .inl (aC 0, 52, .inl (fun _ => 0))), (h60, .inl (aC 3, 4, .inl (fun _ => 0)))] := hD
  refine lv_iload_n hx hb dX11_mark_5 rfl (lv_at hl 1 rfl) ?_
  refine lv_iconst (v := 0) hx hb dX11_mark_6 (by decide) ?_
  refine lv_iconst (v := 3) hx hb dX11_mark_7 (by decide) ?_
  refine goI (wr := [(h1, .inr (11, [.int 0, x2, x3, x4, x5, x6, x7, x8, x9, x10, x11, x12, x13, x14, x15, x16, x17, x18, x19, x20, x21, x22, x23, x24, x25, x26, x27, x28, x29, x30, x31, x32, x33, x34, x35, x36, x37, x38, x39, x40, x41, x42, x43, x44, x45, x46, .ref h47, .ref h48, .ref h49, .ref h50, .ref h51, .ref h52, .ref h53, .ref h54, .ref h55, .ref h56, x57, .ref h58, x59, .ref h60, x61, x62, x63, x64, x65, x66, x67, x68, x69, x70, x71, x72, x73, x74])), (h47, .inl (aC 0, 6, .inl (fun _ => 0))), (h48, .inl (aC 0, 240, .inl (fun _ => 0))), (h49, .inl (aC 0, 240, .inl (fun _ => 0))), (h50, .inl (aC 0, 240, .inl (fun _ => 0))), (h51, .inl (aC 0, 240, .inl (fun _ => 0))), (h52, .inl (aC 0, 5, .inl (fun _ => 0))), (h53, .inl (aC 0, 40, .inl (fun _ => 0))), (h54, .inl (aC 0, 40, .inl (fun _ => 0))), (h55, .inl (aC 3, 40, .inl (fun _ => 0))), (h56, .inl (aC 0, 13, .inl (fun _ => 0))), (h58, .inl (aC 0, 52, .inl (fun _ => 0))), (h60, .inl (aC 3, 4, .inl (fun _ => 0)))]) (runS (n := 3) (As := [.int n_1, .int 0, .int 3]) (rest := []) F hP hD hS (k_within_hi l g aC aM n_1 0 3 (by have a0_ := hl1; simp only [Int32.lt_iff_toInt_lt, Int32.le_iff_toInt_le, ← Int32.toInt_inj, show (0 : Int32).toInt = 0 by decide, show (3 : Int32).toInt = 3 by decide, show (4 : Int32).toInt = 4 by decide] at a0_ ⊢; omega) (by have a0_ := hl1; simp only [Int32.lt_iff_toInt_lt, Int32.le_iff_toInt_le, ← Int32.toInt_inj, show (0 : Int32).toInt = 0 by decide, show (3 : Int32).toInt = 3 by decide, show (4 : Int32).toInt = 4 by decide] at a0_ ⊢; omega)) [] (by decide) rfl tb1511 tb1509 tb1510 tb17 ⟨by decide, by decide, by decide +kernel⟩ ⟨Nat.le_of_ble_eq_true rfl, Nat.le_of_ble_eq_true rfl⟩ rfl hl.1 rfl (Nat.le_of_ble_eq_true rfl) dX11_mark_8 ⟨Nat.le_of_ble_eq_true rfl, Nat.le_of_ble_eq_true rfl⟩) hP hD hS hA [] [0, 1, 2, 3, 4, 5, 6, 7, 8, 9, 10, 11, 12] rfl rfl (by decide) (by decide) (fun r_2 w3 H locs hw hP hD hS => ?_)
  have hP : va_P g vwCl [(h1, .inr (11, [.int 0, x2, x3, x4, x5, x6, x7, x8, x9, x10, x11, x12, x13, x14, x15, x16, x17, x18, x19, x20, x21, x22, x23, x24, x25, x26, x27, x28, x29, x30, x31, x32, x33, x34, x35, x36, x37, x38, x39, x40, x41, x42, x43, x44, x45, x46, .ref h47, .ref h48, .ref h49, .ref h50, .ref h51, .ref h52, .ref h53, .ref h54, .ref h55, .ref h56, x57, .ref h58, x59, .ref h60, x61, x62, x63, x64, x65, x66, x67, x68, x69, x70, x71, x72, x73, x74])), (h47, .inl (aC 0, 6, .inl (fun _ => 0))), (h48, .inl (aC 0, 240, .inl (fun _ => 0))), (h49, .inl (aC 0, 240, .inl (fun _ => 0))), (h50, .inl (aC 0, 240, .inl (fun _ => 0))), (h51, .inl (aC 0, 240, .inl (fun _ => 0))), (h52, .inl (aC 0, 5, .inl (fun _ => 0))), (h53, .inl (aC 0, 40, .inl (fun _ => 0))), (h54, .inl (aC 0, 40, .inl (fun _ => 0))), (h55, .inl (aC 3, 40, .inl (fun _ => 0))), (h56, .inl (aC 0, 13, .inl (fun _ => 0))), (h58, .inl (aC 0, 52, .inl (fun _ => 0))), (h60, .inl (aC 3, 4, .inl (fun _ => 0)))] H := hP
  have hD : va_D A [(h1, .inr (11, [.int 0, x2, x3, x4, x5, x6, x7, x8, x9, x10, x11, x12, x13, x14, x15, x16, x17, x18, x19, x20, x21, x22, x23, x24, x25, x26, x27, x28, x29, x30, x31, x32, x33, x34, x35, x36, x37, x38, x39, x40, x41, x42, x43, x44, x45, x46, .ref h47, .ref h48, .ref h49, .ref h50, .ref h51, .ref h52, .ref h53, .ref h54, .ref h55, .ref h56, x57, .ref h58, x59, .ref h60, x61, x62, x63, x64, x65, x66, x67, x68, x69, x70, x71, x72, x73, x74])), (h47, .inl (aC 0, 6, .inl (fun _ => 0))), (h48, .inl (aC 0, 240, .inl (fun _ => 0))), (h49, .inl (aC 0, 240, .inl (fun _ => 0))), (h50, .inl (aC 0, 240, .inl (fun _ => 0))), (h51, .inl (aC 0, 240, .inl (fun _ => 0))), (h52, .inl (aC 0, 5, .inl (fun _ => 0))), (h53, .inl (aC 0, 40, .inl (fun _ => 0))), (h54, .inl (aC 0, 40, .inl (fun _ => 0))), (h55, .inl (aC 3, 40, .inl (fun _ => 0))), (h56, .inl (aC 0, 13, .inl (fun _ => 0))), (h58, .inl (aC 0, 52, .inl (fun _ => 0))), (h60, .inl (aC 3, 4, .inl (fun _ => 0)))] := hD
  try dsimp only at hw
  subst hw
  refine lv_if_eq (tgt := 27) hx hb dX11_mark_11 (by decide) (fun _ => ?_) (fun c_ => absurd (by decide +kernel) c_)
  refine lv_iconst (v := 0) hx hb dX11_mark_27 (by decide) ?_
  have hP9 := hP.sub (ws' := []) [] rfl
  have hD9 := hD.sub (ws' := []) [] (by decide) rfl
  exact rI () hx hb hr hlk rfl hS rfl hP9 hD9 (Nat.le_of_ble_eq_true rfl) (Nat.le_of_ble_eq_true rfl) dX11_mark_28

set_option maxHeartbeats 4000000 in
set_option maxRecDepth 100000 in
theorem m_mark_00 (l : Launch) (g : va_G) (aC : Nat → ClassId) (aM : Nat → Nat) (h1 h47 h48 h49 h50 h51 h52 h53 h54 h55 h56 h58 h60 : Nat) (x2 x3 x4 x5 x6 x7 x8 x9 x10 x11 x12 x13 x14 x15 x16 x17 x18 x19 x20 x21 x22 x23 x24 x25 x26 x27 x28 x29 x30 x31 x32 x33 x34 x35 x36 x37 x38 x39 x40 x41 x42 x43 x44 x45 x46 x57 x59 x61 x62 x63 x64 x65 x66 x67 x68 x69 x70 x71 x72 x73 x74 : Value) : Ct l g aC aM yX11_mark cX11_mark 5 (some .boolean) 2 [.ref h1, .int 0, .int 0] [(h1, .inr (11, [.int 0, x2, x3, x4, x5, x6, x7, x8, x9, x10, x11, x12, x13, x14, x15, x16, x17, x18, x19, x20, x21, x22, x23, x24, x25, x26, x27, x28, x29, x30, x31, x32, x33, x34, x35, x36, x37, x38, x39, x40, x41, x42, x43, x44, x45, x46, .ref h47, .ref h48, .ref h49, .ref h50, .ref h51, .ref h52, .ref h53, .ref h54, .ref h55, .ref h56, x57, .ref h58, x59, .ref h60, x61, x62, x63, x64, x65, x66, x67, x68, x69, x70, x71, x72, x73, x74])), (h47, .inl (aC 0, 6, .inl (fun _ => 0))), (h48, .inl (aC 0, 240, .inl (fun _ => 0))), (h49, .inl (aC 0, 240, .inl (fun _ => 0))), (h50, .inl (aC 0, 240, .inl (fun _ => 0))), (h51, .inl (aC 0, 240, .inl (fun _ => 0))), (h52, .inl (aC 0, 5, .inl (fun _ => 0))), (h53, .inl (aC 0, 40, .inl (fun _ => 0))), (h54, .inl (aC 0, 40, .inl (fun _ => 0))), (h55, .inl (aC 3, 40, .inl (fun _ => 0))), (h56, .inl (aC 0, 13, .inl (fun _ => 0))), (h58, .inl (aC 0, 52, .inl (fun _ => 0))), (h60, .inl (aC 3, 4, .inl (fun _ => 0)))] (QI g (fun (r : Int32) (_ : Unit) => r = 1) (fun (_ : Unit) => [])) 0 0 := by
  refine Ct.mk (by decide) (Nat.le_of_ble_eq_true rfl) ?_
  intro p e s m below meth c A ls hx hb hml hown hts hr hlk hnm hK hA hM hM2 hP hD hS hl
  have hown : s.vm.findClass RX11 = some m.cls := hown
  have F : Fx p s m _ c cX11_mark 5 RX11 g aC aM A := ⟨hx, hb, hml, hown, hts, hK, hA, hM, hM2⟩
  have hl : lv_has ls 5 [(0, .ref h1), (1, .int 0), (2, .int 0)] := hl
  refine lv_aload_n hx hb dX11_mark_0 rfl (lv_at hl 0 rfl) ?_
  refine lv_iconst (v := 0) hx hb dX11_mark_1 (by decide) ?_
  refine xput F hP hD hS 0 rfl rfl inX11 tyX11_ok nmX11 0 (by decide) tb1182 rfl rfl rfl (Nat.le_of_ble_eq_true rfl) dX11_mark_2 (fun H locs hP hD hS => ?_)
  have hP : va_P g vwCl [(h1, .inr (11, [.int 0, x2, x3, x4, x5, x6, x7, x8, x9, x10, x11, x12, x13, x14, x15, x16, x17, x18, x19, x20, x21, x22, x23, x24, x25, x26, x27, x28, x29, x30, x31, x32, x33, x34, x35, x36, x37, x38, x39, x40, x41, x42, x43, x44, x45, x46, .ref h47, .ref h48, .ref h49, .ref h50, .ref h51, .ref h52, .ref h53, .ref h54, .ref h55, .ref h56, x57, .ref h58, x59, .ref h60, x61, x62, x63, x64, x65, x66, x67, x68, x69, x70, x71, x72, x73, x74])), (h47, .inl (aC 0, 6, .inl (fun _ => 0))), (h48, .inl (aC 0, 240, .inl (fun _ => 0))), (h49, .inl (aC 0, 240, .inl (fun _ => 0))), (h50, .inl (aC 0, 240, .inl (fun _ => 0))), (h51, .inl (aC 0, 240, .inl (fun _ => 0))), (h52, .inl (aC 0, 5, .inl (fun _ => 0))), (h53, .inl (aC 0, 40, .inl (fun _ => 0))), (h54, .inl (aC 0, 40, .inl (fun _ => 0))), (h55, .inl (aC 3, 40, .inl (fun _ => 0))), (h56, .inl (aC 0, 13, .inl (fun _ => 0))), (h58, .inl (aC 0, 52, .inl (fun _ => 0))), (h60, .inl (aC 3, 4, .inl (fun _ => 0)))] H := hP
  have hD : va_D A [(h1, .inr (11, [.int 0, x2, x3, x4, x5, x6, x7, x8, x9, x10, x11, x12, x13, x14, x15, x16, x17, x18, x19, x20, x21, x22, x23, x24, x25, x26, x27, x28, x29, x30, x31, x32, x33, x34, x35, x36, x37, x38, x39, x40, x41, x42, x43, x44, x45, x46, .ref h47, .ref h48, .ref h49, .ref h50, .ref h51, .ref h52, .ref h53, .ref h54, .ref h55, .ref h56, x57, .ref h58, x59, .ref h60, x61, x62, x63, x64, x65, x66, x67, x68, x69, x70, x71, x72, x73, x74])), (h47, .inl (aC 0, 6, .inl (fun _ => 0))), (h48, .inl (aC 0, 240, .inl (fun _ => 0))), (h49, .inl (aC 0, 240, .inl (fun _ => 0))), (h50, .inl (aC 0, 240, .inl (fun _ => 0))), (h51, .inl (aC 0, 240, .inl (fun _ => 0))), (h52, .inl (aC 0, 5, .inl (fun _ => 0))), (h53, .inl (aC 0, 40, .inl (fun _ => 0))), (h54, .inl (aC 0, 40, .inl (fun _ => 0))), (h55, .inl (aC 3, 40, .inl (fun _ => 0))), (h56, .inl (aC 0, 13, .inl (fun _ => 0))), (h58, .inl (aC 0, 52, .inl (fun _ => 0))), (h60, .inl (aC 3, 4, .inl (fun _ => 0)))] := hD
  refine lv_iload_n hx hb dX11_mark_5 rfl (lv_at hl 1 rfl) ?_
  refine lv_iconst (v := 0) hx hb dX11_mark_6 (by decide) ?_
  refine lv_iconst (v := 3) hx hb dX11_mark_7 (by decide) ?_
  refine goI (wr := [(h1, .inr (11, [.int 0, x2, x3, x4, x5, x6, x7, x8, x9, x10, x11, x12, x13, x14, x15, x16, x17, x18, x19, x20, x21, x22, x23, x24, x25, x26, x27, x28, x29, x30, x31, x32, x33, x34, x35, x36, x37, x38, x39, x40, x41, x42, x43, x44, x45, x46, .ref h47, .ref h48, .ref h49, .ref h50, .ref h51, .ref h52, .ref h53, .ref h54, .ref h55, .ref h56, x57, .ref h58, x59, .ref h60, x61, x62, x63, x64, x65, x66, x67, x68, x69, x70, x71, x72, x73, x74])), (h47, .inl (aC 0, 6, .inl (fun _ => 0))), (h48, .inl (aC 0, 240, .inl (fun _ => 0))), (h49, .inl (aC 0, 240, .inl (fun _ => 0))), (h50, .inl (aC 0, 240, .inl (fun _ => 0))), (h51, .inl (aC 0, 240, .inl (fun _ => 0))), (h52, .inl (aC 0, 5, .inl (fun _ => 0))), (h53, .inl (aC 0, 40, .inl (fun _ => 0))), (h54, .inl (aC 0, 40, .inl (fun _ => 0))), (h55, .inl (aC 3, 40, .inl (fun _ => 0))), (h56, .inl (aC 0, 13, .inl (fun _ => 0))), (h58, .inl (aC 0, 52, .inl (fun _ => 0))), (h60, .inl (aC 3, 4, .inl (fun _ => 0)))]) (runS (n := 3) (As := [.int 0, .int 0, .int 3]) (rest := []) F hP hD hS (a_X11_within_22 l g aC aM ) [] (by decide) rfl tb1511 tb1509 tb1510 tb17 ⟨by decide, by decide, by decide +kernel⟩ ⟨Nat.le_of_ble_eq_true rfl, Nat.le_of_ble_eq_true rfl⟩ rfl hl.1 rfl (Nat.le_of_ble_eq_true rfl) dX11_mark_8 ⟨Nat.le_of_ble_eq_true rfl, Nat.le_of_ble_eq_true rfl⟩) hP hD hS hA [] [0, 1, 2, 3, 4, 5, 6, 7, 8, 9, 10, 11, 12] rfl rfl (by decide) (by decide) (fun r_2 w3 H locs hw hP hD hS => ?_)
  have hP : va_P g vwCl [(h1, .inr (11, [.int 0, x2, x3, x4, x5, x6, x7, x8, x9, x10, x11, x12, x13, x14, x15, x16, x17, x18, x19, x20, x21, x22, x23, x24, x25, x26, x27, x28, x29, x30, x31, x32, x33, x34, x35, x36, x37, x38, x39, x40, x41, x42, x43, x44, x45, x46, .ref h47, .ref h48, .ref h49, .ref h50, .ref h51, .ref h52, .ref h53, .ref h54, .ref h55, .ref h56, x57, .ref h58, x59, .ref h60, x61, x62, x63, x64, x65, x66, x67, x68, x69, x70, x71, x72, x73, x74])), (h47, .inl (aC 0, 6, .inl (fun _ => 0))), (h48, .inl (aC 0, 240, .inl (fun _ => 0))), (h49, .inl (aC 0, 240, .inl (fun _ => 0))), (h50, .inl (aC 0, 240, .inl (fun _ => 0))), (h51, .inl (aC 0, 240, .inl (fun _ => 0))), (h52, .inl (aC 0, 5, .inl (fun _ => 0))), (h53, .inl (aC 0, 40, .inl (fun _ => 0))), (h54, .inl (aC 0, 40, .inl (fun _ => 0))), (h55, .inl (aC 3, 40, .inl (fun _ => 0))), (h56, .inl (aC 0, 13, .inl (fun _ => 0))), (h58, .inl (aC 0, 52, .inl (fun _ => 0))), (h60, .inl (aC 3, 4, .inl (fun _ => 0)))] H := hP
  have hD : va_D A [(h1, .inr (11, [.int 0, x2, x3, x4, x5, x6, x7, x8, x9, x10, x11, x12, x13, x14, x15, x16, x17, x18, x19, x20, x21, x22, x23, x24, x25, x26, x27, x28, x29, x30, x31, x32, x33, x34, x35, x36, x37, x38, x39, x40, x41, x42, x43, x44, x45, x46, .ref h47, .ref h48, .ref h49, .ref h50, .ref h51, .ref h52, .ref h53, .ref h54, .ref h55, .ref h56, x57, .ref h58, x59, .ref h60, x61, x62, x63, x64, x65, x66, x67, x68, x69, x70, x71, x72, x73, x74])), (h47, .inl (aC 0, 6, .inl (fun _ => 0))), (h48, .inl (aC 0, 240, .inl (fun _ => 0))), (h49, .inl (aC 0, 240, .inl (fun _ => 0))), (h50, .inl (aC 0, 240, .inl (fun _ => 0))), (h51, .inl (aC 0, 240, .inl (fun _ => 0))), (h52, .inl (aC 0, 5, .inl (fun _ => 0))), (h53, .inl (aC 0, 40, .inl (fun _ => 0))), (h54, .inl (aC 0, 40, .inl (fun _ => 0))), (h55, .inl (aC 3, 40, .inl (fun _ => 0))), (h56, .inl (aC 0, 13, .inl (fun _ => 0))), (h58, .inl (aC 0, 52, .inl (fun _ => 0))), (h60, .inl (aC 3, 4, .inl (fun _ => 0)))] := hD
  try dsimp only at hw
  subst hw
  refine lv_if_eq (tgt := 27) hx hb dX11_mark_11 (by decide) (fun c_ => absurd c_ (by decide +kernel)) (fun _ => ?_)
  refine lv_iload_n hx hb dX11_mark_14 rfl (lv_at hl 2 rfl) ?_
  refine lv_if_eq (tgt := 29) hx hb dX11_mark_15 (by decide) (fun _ => ?_) (fun c_ => absurd (by decide +kernel) c_)
  refine lv_aload_n hx hb dX11_mark_29 rfl (lv_at hl 0 rfl) ?_
  refine xget F hP 0 rfl rfl inX11 59 (by decide) tb1241 rfl dX11_mark_30 ?_
  refine lv_iload_n hx hb dX11_mark_33 rfl (lv_at hl 1 rfl) ?_
  refine lv_iconst (v := 1) hx hb dX11_mark_34 (by decide) ?_
  refine xzst (f' := upd (fun _ => 0) 0 1) F hP hD hS 12 rfl 0 (by decide +kernel) (by decide +kernel) (by decide) (xup _ _ (by decide +kernel)) dX11_mark_35 (fun H locs hP hD hS => ?_)
  have hP : va_P g vwCl [(h1, .inr (11, [.int 0, x2, x3, x4, x5, x6, x7, x8, x9, x10, x11, x12, x13, x14, x15, x16, x17, x18, x19, x20, x21, x22, x23, x24, x25, x26, x27, x28, x29, x30, x31, x32, x33, x34, x35, x36, x37, x38, x39, x40, x41, x42, x43, x44, x45, x46, .ref h47, .ref h48, .ref h49, .ref h50, .ref h51, .ref h52, .ref h53, .ref h54, .ref h55, .ref h56, x57, .ref h58, x59, .ref h60, x61, x62, x63, x64, x65, x66, x67, x68, x69, x70, x71, x72, x73, x74])), (h47, .inl (aC 0, 6, .inl (fun _ => 0))), (h48, .inl (aC 0, 240, .inl (fun _ => 0))), (h49, .inl (aC 0, 240, .inl (fun _ => 0))), (h50, .inl (aC 0, 240, .inl (fun _ => 0))), (h51, .inl (aC 0, 240, .inl (fun _ => 0))), (h52, .inl (aC 0, 5, .inl (fun _ => 0))), (h53, .inl (aC 0, 40, .inl (fun _ => 0))), (h54, .inl (aC 0, 40, .inl (fun _ => 0))), (h55, .inl (aC 3, 40, .inl (fun _ => 0))), (h56, .inl (aC 0, 13, .inl (fun _ => 0))), (h58, .inl (aC 0, 52, .inl (fun _ => 0))), (h60, .inl (aC 3, 4, .inl (upd (fun _ => 0) 0 1)))] H := hP
  have hD : va_D A [(h1, .inr (11, [.int 0, x2, x3, x4, x5, x6, x7, x8, x9, x10, x11, x12, x13, x14, x15, x16, x17, x18, x19, x20, x21, x22, x23, x24, x25, x26, x27, x28, x29, x30, x31, x32, x33, x34, x35, x36, x37, x38, x39, x40, x41, x42, x43, x44, x45, x46, .ref h47, .ref h48, .ref h49, .ref h50, .ref h51, .ref h52, .ref h53, .ref h54, .ref h55, .ref h56, x57, .ref h58, x59, .ref h60, x61, x62, x63, x64, x65, x66, x67, x68, x69, x70, x71, x72, x73, x74])), (h47, .inl (aC 0, 6, .inl (fun _ => 0))), (h48, .inl (aC 0, 240, .inl (fun _ => 0))), (h49, .inl (aC 0, 240, .inl (fun _ => 0))), (h50, .inl (aC 0, 240, .inl (fun _ => 0))), (h51, .inl (aC 0, 240, .inl (fun _ => 0))), (h52, .inl (aC 0, 5, .inl (fun _ => 0))), (h53, .inl (aC 0, 40, .inl (fun _ => 0))), (h54, .inl (aC 0, 40, .inl (fun _ => 0))), (h55, .inl (aC 3, 40, .inl (fun _ => 0))), (h56, .inl (aC 0, 13, .inl (fun _ => 0))), (h58, .inl (aC 0, 52, .inl (fun _ => 0))), (h60, .inl (aC 3, 4, .inl (upd (fun _ => 0) 0 1)))] := hD
  refine lv_iload_n hx hb dX11_mark_36 rfl (lv_at hl 2 rfl) ?_
  refine lv_if_eq (tgt := 46) hx hb dX11_mark_37 (by decide) (fun _ => ?_) (fun c_ => absurd (by decide +kernel) c_)
  refine lv_iconst (v := 0) hx hb dX11_mark_46 (by decide) ?_
  refine lv_istore_n (lv' := [(3, .int 0), (0, .ref h1), (1, .int 0), (2, .int 0)]) hx hb dX11_mark_47 rfl hl (by decide) rfl (fun ls hl => ?_)
  refine lv_iload_n hx hb dX11_mark_48 rfl (lv_at hl 3 rfl) ?_
  refine lv_if_eq (tgt := 56) hx hb dX11_mark_49 (by decide) (fun _ => ?_) (fun c_ => absurd (by decide +kernel) c_)
  refine lv_iconst (v := 1) hx hb dX11_mark_56 (by decide) ?_
  refine lv_iload_n hx hb dX11_mark_57 rfl (lv_at hl 2 rfl) ?_
  refine lv_iadd hx hb dX11_mark_58 ?_
  refine relit (v := 1) (by decide +kernel) ?_
  refine lv_istore (lv' := [(4, .int 1), (3, .int 0), (0, .ref h1), (1, .int 0), (2, .int 0)]) hx hb dX11_mark_59 hl (by decide) rfl (fun ls hl => ?_)
  refine lv_aload_n hx hb dX11_mark_61 rfl (lv_at hl 2 rfl) ?_
  refine lv_iload_n hx hb dX11_mark_62 rfl (lv_at hl 1 rfl) ?_
  refine lv_iload hx hb dX11_mark_63 (lv_at hl 0 rfl) ?_
  refine goV (wr := [(h52, .inl (aC 0, 5, .inl (fun _ => 0))), (h53, .inl (aC 0, 40, .inl (fun _ => 0))), (h54, .inl (aC 0, 40, .inl (fun _ => 0))), (h55, .inl (aC 3, 40, .inl (fun _ => 0))), (h56, .inl (aC 0, 13, .inl (fun _ => 0))), (h58, .inl (aC 0, 52, .inl (fun _ => 0))), (h60, .inl (aC 3, 4, .inl (upd (fun _ => 0) 0 1)))]) (runV (n := 2) (As := [.int 0, .int 1]) (rest := []) F hP hD hS (k_laysLines_0_1 l g aC aM h1 h47 h48 h49 h50 h51 (.int 0) x2 x3 x4 x5 x6 x7 x8 x9 x10 x11 x12 x13 x14 x15 x16 x17 x18 x19 x20 x21 x22 x23 x24 x25 x26 x27 x28 x29 x30 x31 x32 x33 x34 x35 x36 x37 x38 x39 x40 x41 x42 x43 x44 x45 x46 (.ref h52) (.ref h53) (.ref h54) (.ref h55) (.ref h56) x57 (.ref h58) x59 (.ref h60) x61 x62 x63 x64 x65 x66 x67 x68 x69 x70 x71 x72 x73 x74) [0, 1, 2, 3, 4, 5] (by decide) rfl 0 11 rfl rfl rfl tb1608 tb1605 tb1607 tv68 tb17 ⟨by decide, by decide, by decide +kernel⟩ ⟨Nat.le_of_ble_eq_true rfl, Nat.le_of_ble_eq_true rfl⟩ rfl hl.1 rfl (Nat.le_of_ble_eq_true rfl) dX11_mark_65 ⟨Nat.le_of_ble_eq_true rfl, Nat.le_of_ble_eq_true rfl⟩) hP hD hS hA [0, 1, 2, 3, 4, 5] [6, 7, 8, 9, 10, 11, 12] rfl rfl (by decide) (by decide) (fun w10 H locs hw hP hD hS => ?_)
  have hP : va_P g vwCl [(h52, .inl (aC 0, 5, .inl (fun _ => 0))), (h53, .inl (aC 0, 40, .inl (fun _ => 0))), (h54, .inl (aC 0, 40, .inl (fun _ => 0))), (h55, .inl (aC 3, 40, .inl (fun _ => 0))), (h56, .inl (aC 0, 13, .inl (fun _ => 0))), (h58, .inl (aC 0, 52, .inl (fun _ => 0))), (h60, .inl (aC 3, 4, .inl (upd (fun _ => 0) 0 1))), (h1, .inr (11, [.int 0, x2, x3, x4, x5, x6, x7, x8, x9, x10, x11, x12, x13, x14, x15, x16, x17, x18, x19, x20, x21, x22, x23, x24, x25, x26, x27, x28, x29, x30, x31, x32, x33, x34, x35, x36, x37, x38, x39, x40, x41, x42, x43, x44, x45, x46, .ref h47, .ref h48, .ref h49, .ref h50, .ref h51, .ref h52, .ref h53, .ref h54, .ref h55, .ref h56, x57, .ref h58, x59, .ref h60, x61, x62, x63, x64, x65, x66, x67, x68, x69, x70, x71, x72, x73, x74])), (h47, .inl (aC 0, 6, .inl (fun _ => 0))), (h48, .inl (aC 0, 240, .inl (fun _ => 0))), (h49, .inl (aC 0, 240, .inl (fun _ => 0))), (h50, .inl (aC 0, 240, .inl (fun _ => 0))), (h51, .inl (aC 0, 240, .inl (fun _ => 0)))] H := hP
  have hD : va_D A [(h52, .inl (aC 0, 5, .inl (fun _ => 0))), (h53, .inl (aC 0, 40, .inl (fun _ => 0))), (h54, .inl (aC 0, 40, .inl (fun _ => 0))), (h55, .inl (aC 3, 40, .inl (fun _ => 0))), (h56, .inl (aC 0, 13, .inl (fun _ => 0))), (h58, .inl (aC 0, 52, .inl (fun _ => 0))), (h60, .inl (aC 3, 4, .inl (upd (fun _ => 0) 0 1))), (h1, .inr (11, [.int 0, x2, x3, x4, x5, x6, x7, x8, x9, x10, x11, x12, x13, x14, x15, x16, x17, x18, x19, x20, x21, x22, x23, x24, x25, x26, x27, x28, x29, x30, x31, x32, x33, x34, x35, x36, x37, x38, x39, x40, x41, x42, x43, x44, x45, x46, .ref h47, .ref h48, .ref h49, .ref h50, .ref h51, .ref h52, .ref h53, .ref h54, .ref h55, .ref h56, x57, .ref h58, x59, .ref h60, x61, x62, x63, x64, x65, x66, x67, x68, x69, x70, x71, x72, x73, x74])), (h47, .inl (aC 0, 6, .inl (fun _ => 0))), (h48, .inl (aC 0, 240, .inl (fun _ => 0))), (h49, .inl (aC 0, 240, .inl (fun _ => 0))), (h50, .inl (aC 0, 240, .inl (fun _ => 0))), (h51, .inl (aC 0, 240, .inl (fun _ => 0)))] := hD
  refine lv_aload_n hx hb dX11_mark_68 rfl (lv_at hl 2 rfl) ?_
  refine lv_iload_n hx hb dX11_mark_69 rfl (lv_at hl 1 rfl) ?_
  refine lv_iload hx hb dX11_mark_70 (lv_at hl 0 rfl) ?_
  refine goV (wr := [(h56, .inl (aC 0, 13, .inl (fun _ => 0))), (h58, .inl (aC 0, 52, .inl (fun _ => 0))), (h60, .inl (aC 3, 4, .inl (upd (fun _ => 0) 0 1))), (h47, .inl (aC 0, 6, .inl (fun _ => 0))), (h48, .inl (aC 0, 240, .inl (fun _ => 0))), (h49, .inl (aC 0, 240, .inl (fun _ => 0))), (h50, .inl (aC 0, 240, .inl (fun _ => 0))), (h51, .inl (aC 0, 240, .inl (fun _ => 0)))]) (runV (n := 2) (As := [.int 0, .int 1]) (rest := []) F hP hD hS (k_laysSeen_0_1 l g aC aM h1 h52 h53 h54 h55 (.int 0) x2 x3 x4 x5 x6 x7 x8 x9 x10 x11 x12 x13 x14 x15 x16 x17 x18 x19 x20 x21 x22 x23 x24 x25 x26 x27 x28 x29 x30 x31 x32 x33 x34 x35 x36 x37 x38 x39 x40 x41 x42 x43 x44 x45 x46 (.ref h47) (.ref h48) (.ref h49) (.ref h50) (.ref h51) (.ref h56) x57 (.ref h58) x59 (.ref h60) x61 x62 x63 x64 x65 x66 x67 x68 x69 x70 x71 x72 x73 x74) [7, 0, 1, 2, 3] (by decide) rfl 7 11 rfl rfl rfl tb1917 tb1914 tb1916 tv113 tb17 ⟨by decide, by decide, by decide +kernel⟩ ⟨Nat.le_of_ble_eq_true rfl, Nat.le_of_ble_eq_true rfl⟩ rfl hl.1 rfl (Nat.le_of_ble_eq_true rfl) dX11_mark_72 ⟨Nat.le_of_ble_eq_true rfl, Nat.le_of_ble_eq_true rfl⟩) hP hD hS hA [7, 0, 1, 2, 3] [4, 5, 6, 8, 9, 10, 11, 12] rfl rfl (by decide) (by decide) (fun w13 H locs hw hP hD hS => ?_)
  have hP : va_P g vwCl [(h56, .inl (aC 0, 13, .inl (fun _ => 0))), (h58, .inl (aC 0, 52, .inl (fun _ => 0))), (h60, .inl (aC 3, 4, .inl (upd (fun _ => 0) 0 1))), (h47, .inl (aC 0, 6, .inl (fun _ => 0))), (h48, .inl (aC 0, 240, .inl (fun _ => 0))), (h49, .inl (aC 0, 240, .inl (fun _ => 0))), (h50, .inl (aC 0, 240, .inl (fun _ => 0))), (h51, .inl (aC 0, 240, .inl (fun _ => 0))), (h1, .inr (11, [.int 0, x2, x3, x4, x5, x6, x7, x8, x9, x10, x11, x12, x13, x14, x15, x16, x17, x18, x19, x20, x21, x22, x23, x24, x25, x26, x27, x28, x29, x30, x31, x32, x33, x34, x35, x36, x37, x38, x39, x40, x41, x42, x43, x44, x45, x46, .ref h47, .ref h48, .ref h49, .ref h50, .ref h51, .ref h52, .ref h53, .ref h54, .ref h55, .ref h56, x57, .ref h58, x59, .ref h60, x61, x62, x63, x64, x65, x66, x67, x68, x69, x70, x71, x72, x73, x74])), (h52, .inl (aC 0, 5, .inl (fun _ => 0))), (h53, .inl (aC 0, 40, .inl (fun _ => 0))), (h54, .inl (aC 0, 40, .inl (fun _ => 0))), (h55, .inl (aC 3, 40, .inl (fun _ => 0)))] H := hP
  have hD : va_D A [(h56, .inl (aC 0, 13, .inl (fun _ => 0))), (h58, .inl (aC 0, 52, .inl (fun _ => 0))), (h60, .inl (aC 3, 4, .inl (upd (fun _ => 0) 0 1))), (h47, .inl (aC 0, 6, .inl (fun _ => 0))), (h48, .inl (aC 0, 240, .inl (fun _ => 0))), (h49, .inl (aC 0, 240, .inl (fun _ => 0))), (h50, .inl (aC 0, 240, .inl (fun _ => 0))), (h51, .inl (aC 0, 240, .inl (fun _ => 0))), (h1, .inr (11, [.int 0, x2, x3, x4, x5, x6, x7, x8, x9, x10, x11, x12, x13, x14, x15, x16, x17, x18, x19, x20, x21, x22, x23, x24, x25, x26, x27, x28, x29, x30, x31, x32, x33, x34, x35, x36, x37, x38, x39, x40, x41, x42, x43, x44, x45, x46, .ref h47, .ref h48, .ref h49, .ref h50, .ref h51, .ref h52, .ref h53, .ref h54, .ref h55, .ref h56, x57, .ref h58, x59, .ref h60, x61, x62, x63, x64, x65, x66, x67, x68, x69, x70, x71, x72, x73, x74])), (h52, .inl (aC 0, 5, .inl (fun _ => 0))), (h53, .inl (aC 0, 40, .inl (fun _ => 0))), (h54, .inl (aC 0, 40, .inl (fun _ => 0))), (h55, .inl (aC 3, 40, .inl (fun _ => 0)))] := hD
  refine lv_iload_n hx hb dX11_mark_75 rfl (lv_at hl 4 rfl) ?_
  refine lv_if_eq (tgt := 103) hx hb dX11_mark_76 (by decide) (fun _ => ?_) (fun c_ => absurd (by decide +kernel) c_)
  refine lv_aload_n hx hb dX11_mark_103 rfl (lv_at hl 2 rfl) ?_
  refine xget F hP 8 rfl rfl inX11 55 (by decide) tb1237 rfl dX11_mark_104 ?_
  refine lv_iconst (v := 0) hx hb dX11_mark_107 (by decide) ?_
  refine lv_aload_n hx hb dX11_mark_108 rfl (lv_at hl 2 rfl) ?_
  refine xget F hP 8 rfl rfl inX11 57 (by decide) tb1239 rfl dX11_mark_109 ?_
  refine lv_bipush (v := 13) hx hb dX11_mark_112 (by decide) ?_
  refine lv_iload_n hx hb dX11_mark_114 rfl (lv_at hl 3 rfl) ?_
  refine lv_imul hx hb dX11_mark_115 ?_
  refine relit (v := 0) (by decide +kernel) ?_
  refine goV (wr := [(h60, .inl (aC 3, 4, .inl (upd (fun _ => 0) 0 1))), (h47, .inl (aC 0, 6, .inl (fun _ => 0))), (h48, .inl (aC 0, 240, .inl (fun _ => 0))), (h49, .inl (aC 0, 240, .inl (fun _ => 0))), (h50, .inl (aC 0, 240, .inl (fun _ => 0))), (h51, .inl (aC 0, 240, .inl (fun _ => 0))), (h1, .inr (11, [.int 0, x2, x3, x4, x5, x6, x7, x8, x9, x10, x11, x12, x13, x14, x15, x16, x17, x18, x19, x20, x21, x22, x23, x24, x25, x26, x27, x28, x29, x30, x31, x32, x33, x34, x35, x36, x37, x38, x39, x40, x41, x42, x43, x44, x45, x46, .ref h47, .ref h48, .ref h49, .ref h50, .ref h51, .ref h52, .ref h53, .ref h54, .ref h55, .ref h56, x57, .ref h58, x59, .ref h60, x61, x62, x63, x64, x65, x66, x67, x68, x69, x70, x71, x72, x73, x74])), (h52, .inl (aC 0, 5, .inl (fun _ => 0))), (h53, .inl (aC 0, 40, .inl (fun _ => 0))), (h54, .inl (aC 0, 40, .inl (fun _ => 0))), (h55, .inl (aC 3, 40, .inl (fun _ => 0)))]) (runS (n := 4) (As := [.ref h56, .int 0, .ref h58, .int 0]) (rest := []) F hP hD hS (a_X11_copies_4 l g aC aM h56 h58) [0, 1] (by decide) rfl tb1700 tb1698 tb1699 tb17 ⟨by decide, by decide, by decide +kernel⟩ ⟨Nat.le_of_ble_eq_true rfl, Nat.le_of_ble_eq_true rfl⟩ rfl hl.1 rfl (Nat.le_of_ble_eq_true rfl) dX11_mark_116 ⟨Nat.le_of_ble_eq_true rfl, Nat.le_of_ble_eq_true rfl⟩) hP hD hS hA [0, 1] [2, 3, 4, 5, 6, 7, 8, 9, 10, 11, 12] rfl rfl (by decide) (by decide) (fun w17 H locs hw hP hD hS => ?_)
  have hP : va_P g vwCl [(h60, .inl (aC 3, 4, .inl (upd (fun _ => 0) 0 1))), (h47, .inl (aC 0, 6, .inl (fun _ => 0))), (h48, .inl (aC 0, 240, .inl (fun _ => 0))), (h49, .inl (aC 0, 240, .inl (fun _ => 0))), (h50, .inl (aC 0, 240, .inl (fun _ => 0))), (h51, .inl (aC 0, 240, .inl (fun _ => 0))), (h1, .inr (11, [.int 0, x2, x3, x4, x5, x6, x7, x8, x9, x10, x11, x12, x13, x14, x15, x16, x17, x18, x19, x20, x21, x22, x23, x24, x25, x26, x27, x28, x29, x30, x31, x32, x33, x34, x35, x36, x37, x38, x39, x40, x41, x42, x43, x44, x45, x46, .ref h47, .ref h48, .ref h49, .ref h50, .ref h51, .ref h52, .ref h53, .ref h54, .ref h55, .ref h56, x57, .ref h58, x59, .ref h60, x61, x62, x63, x64, x65, x66, x67, x68, x69, x70, x71, x72, x73, x74])), (h52, .inl (aC 0, 5, .inl (fun _ => 0))), (h53, .inl (aC 0, 40, .inl (fun _ => 0))), (h54, .inl (aC 0, 40, .inl (fun _ => 0))), (h55, .inl (aC 3, 40, .inl (fun _ => 0))), (h56, .inl (aC 0, 13, .inl (fun _ => 0))), (h58, .inl (aC 0, 52, .inl (fun _ => 0)))] H := hP
  have hD : va_D A [(h60, .inl (aC 3, 4, .inl (upd (fun _ => 0) 0 1))), (h47, .inl (aC 0, 6, .inl (fun _ => 0))), (h48, .inl (aC 0, 240, .inl (fun _ => 0))), (h49, .inl (aC 0, 240, .inl (fun _ => 0))), (h50, .inl (aC 0, 240, .inl (fun _ => 0))), (h51, .inl (aC 0, 240, .inl (fun _ => 0))), (h1, .inr (11, [.int 0, x2, x3, x4, x5, x6, x7, x8, x9, x10, x11, x12, x13, x14, x15, x16, x17, x18, x19, x20, x21, x22, x23, x24, x25, x26, x27, x28, x29, x30, x31, x32, x33, x34, x35, x36, x37, x38, x39, x40, x41, x42, x43, x44, x45, x46, .ref h47, .ref h48, .ref h49, .ref h50, .ref h51, .ref h52, .ref h53, .ref h54, .ref h55, .ref h56, x57, .ref h58, x59, .ref h60, x61, x62, x63, x64, x65, x66, x67, x68, x69, x70, x71, x72, x73, x74])), (h52, .inl (aC 0, 5, .inl (fun _ => 0))), (h53, .inl (aC 0, 40, .inl (fun _ => 0))), (h54, .inl (aC 0, 40, .inl (fun _ => 0))), (h55, .inl (aC 3, 40, .inl (fun _ => 0))), (h56, .inl (aC 0, 13, .inl (fun _ => 0))), (h58, .inl (aC 0, 52, .inl (fun _ => 0)))] := hD
  refine lv_iconst (v := 1) hx hb dX11_mark_119 (by decide) ?_
  have hP9 := hP.sub (ws' := []) [] rfl
  have hD9 := hD.sub (ws' := []) [] (by decide) rfl
  exact rI () hx hb hr hlk rfl hS rfl hP9 hD9 (Nat.le_of_ble_eq_true rfl) (Nat.le_of_ble_eq_true rfl) dX11_mark_120

set_option maxHeartbeats 4000000 in
set_option maxRecDepth 100000 in
theorem m_mark_10 (l : Launch) (g : va_G) (aC : Nat → ClassId) (aM : Nat → Nat) (h1 h47 h48 h49 h50 h51 h52 h53 h54 h55 h56 h58 h60 : Nat) (x2 x3 x4 x5 x6 x7 x8 x9 x10 x11 x12 x13 x14 x15 x16 x17 x18 x19 x20 x21 x22 x23 x24 x25 x26 x27 x28 x29 x30 x31 x32 x33 x34 x35 x36 x37 x38 x39 x40 x41 x42 x43 x44 x45 x46 x57 x59 x61 x62 x63 x64 x65 x66 x67 x68 x69 x70 x71 x72 x73 x74 : Value) : Ct l g aC aM yX11_mark cX11_mark 5 (some .boolean) 2 [.ref h1, .int 1, .int 0] [(h1, .inr (11, [.int 0, x2, x3, x4, x5, x6, x7, x8, x9, x10, x11, x12, x13, x14, x15, x16, x17, x18, x19, x20, x21, x22, x23, x24, x25, x26, x27, x28, x29, x30, x31, x32, x33, x34, x35, x36, x37, x38, x39, x40, x41, x42, x43, x44, x45, x46, .ref h47, .ref h48, .ref h49, .ref h50, .ref h51, .ref h52, .ref h53, .ref h54, .ref h55, .ref h56, x57, .ref h58, x59, .ref h60, x61, x62, x63, x64, x65, x66, x67, x68, x69, x70, x71, x72, x73, x74])), (h47, .inl (aC 0, 6, .inl (fun _ => 0))), (h48, .inl (aC 0, 240, .inl (fun _ => 0))), (h49, .inl (aC 0, 240, .inl (fun _ => 0))), (h50, .inl (aC 0, 240, .inl (fun _ => 0))), (h51, .inl (aC 0, 240, .inl (fun _ => 0))), (h52, .inl (aC 0, 5, .inl (fun _ => 0))), (h53, .inl (aC 0, 40, .inl (fun _ => 0))), (h54, .inl (aC 0, 40, .inl (fun _ => 0))), (h55, .inl (aC 3, 40, .inl (fun _ => 0))), (h56, .inl (aC 0, 13, .inl (fun _ => 0))), (h58, .inl (aC 0, 52, .inl (fun _ => 0))), (h60, .inl (aC 3, 4, .inl (fun _ => 0)))] (QI g (fun (r : Int32) (_ : Unit) => r = 1) (fun (_ : Unit) => [])) 0 0 := by
  refine Ct.mk (by decide) (Nat.le_of_ble_eq_true rfl) ?_
  intro p e s m below meth c A ls hx hb hml hown hts hr hlk hnm hK hA hM hM2 hP hD hS hl
  have hown : s.vm.findClass RX11 = some m.cls := hown
  have F : Fx p s m _ c cX11_mark 5 RX11 g aC aM A := ⟨hx, hb, hml, hown, hts, hK, hA, hM, hM2⟩
  have hl : lv_has ls 5 [(0, .ref h1), (1, .int 1), (2, .int 0)] := hl
  refine lv_aload_n hx hb dX11_mark_0 rfl (lv_at hl 0 rfl) ?_
  refine lv_iconst (v := 0) hx hb dX11_mark_1 (by decide) ?_
  refine xput F hP hD hS 0 rfl rfl inX11 tyX11_ok nmX11 0 (by decide) tb1182 rfl rfl rfl (Nat.le_of_ble_eq_true rfl) dX11_mark_2 (fun H locs hP hD hS => ?_)
  have hP : va_P g vwCl [(h1, .inr (11, [.int 0, x2, x3, x4, x5, x6, x7, x8, x9, x10, x11, x12, x13, x14, x15, x16, x17, x18, x19, x20, x21, x22, x23, x24, x25, x26, x27, x28, x29, x30, x31, x32, x33, x34, x35, x36, x37, x38, x39, x40, x41, x42, x43, x44, x45, x46, .ref h47, .ref h48, .ref h49, .ref h50, .ref h51, .ref h52, .ref h53, .ref h54, .ref h55, .ref h56, x57, .ref h58, x59, .ref h60, x61, x62, x63, x64, x65, x66, x67, x68, x69, x70, x71, x72, x73, x74])), (h47, .inl (aC 0, 6, .inl (fun _ => 0))), (h48, .inl (aC 0, 240, .inl (fun _ => 0))), (h49, .inl (aC 0, 240, .inl (fun _ => 0))), (h50, .inl (aC 0, 240, .inl (fun _ => 0))), (h51, .inl (aC 0, 240, .inl (fun _ => 0))), (h52, .inl (aC 0, 5, .inl (fun _ => 0))), (h53, .inl (aC 0, 40, .inl (fun _ => 0))), (h54, .inl (aC 0, 40, .inl (fun _ => 0))), (h55, .inl (aC 3, 40, .inl (fun _ => 0))), (h56, .inl (aC 0, 13, .inl (fun _ => 0))), (h58, .inl (aC 0, 52, .inl (fun _ => 0))), (h60, .inl (aC 3, 4, .inl (fun _ => 0)))] H := hP
  have hD : va_D A [(h1, .inr (11, [.int 0, x2, x3, x4, x5, x6, x7, x8, x9, x10, x11, x12, x13, x14, x15, x16, x17, x18, x19, x20, x21, x22, x23, x24, x25, x26, x27, x28, x29, x30, x31, x32, x33, x34, x35, x36, x37, x38, x39, x40, x41, x42, x43, x44, x45, x46, .ref h47, .ref h48, .ref h49, .ref h50, .ref h51, .ref h52, .ref h53, .ref h54, .ref h55, .ref h56, x57, .ref h58, x59, .ref h60, x61, x62, x63, x64, x65, x66, x67, x68, x69, x70, x71, x72, x73, x74])), (h47, .inl (aC 0, 6, .inl (fun _ => 0))), (h48, .inl (aC 0, 240, .inl (fun _ => 0))), (h49, .inl (aC 0, 240, .inl (fun _ => 0))), (h50, .inl (aC 0, 240, .inl (fun _ => 0))), (h51, .inl (aC 0, 240, .inl (fun _ => 0))), (h52, .inl (aC 0, 5, .inl (fun _ => 0))), (h53, .inl (aC 0, 40, .inl (fun _ => 0))), (h54, .inl (aC 0, 40, .inl (fun _ => 0))), (h55, .inl (aC 3, 40, .inl (fun _ => 0))), (h56, .inl (aC 0, 13, .inl (fun _ => 0))), (h58, .inl (aC 0, 52, .inl (fun _ => 0))), (h60, .inl (aC 3, 4, .inl (fun _ => 0)))] := hD
  refine lv_iload_n hx hb dX11_mark_5 rfl (lv_at hl 1 rfl) ?_
  refine lv_iconst (v := 0) hx hb dX11_mark_6 (by decide) ?_
  refine lv_iconst (v := 3) hx hb dX11_mark_7 (by decide) ?_
  refine goI (wr := [(h1, .inr (11, [.int 0, x2, x3, x4, x5, x6, x7, x8, x9, x10, x11, x12, x13, x14, x15, x16, x17, x18, x19, x20, x21, x22, x23, x24, x25, x26, x27, x28, x29, x30, x31, x32, x33, x34, x35, x36, x37, x38, x39, x40, x41, x42, x43, x44, x45, x46, .ref h47, .ref h48, .ref h49, .ref h50, .ref h51, .ref h52, .ref h53, .ref h54, .ref h55, .ref h56, x57, .ref h58, x59, .ref h60, x61, x62, x63, x64, x65, x66, x67, x68, x69, x70, x71, x72, x73, x74])), (h47, .inl (aC 0, 6, .inl (fun _ => 0))), (h48, .inl (aC 0, 240, .inl (fun _ => 0))), (h49, .inl (aC 0, 240, .inl (fun _ => 0))), (h50, .inl (aC 0, 240, .inl (fun _ => 0))), (h51, .inl (aC 0, 240, .inl (fun _ => 0))), (h52, .inl (aC 0, 5, .inl (fun _ => 0))), (h53, .inl (aC 0, 40, .inl (fun _ => 0))), (h54, .inl (aC 0, 40, .inl (fun _ => 0))), (h55, .inl (aC 3, 40, .inl (fun _ => 0))), (h56, .inl (aC 0, 13, .inl (fun _ => 0))), (h58, .inl (aC 0, 52, .inl (fun _ => 0))), (h60, .inl (aC 3, 4, .inl (fun _ => 0)))]) (runS (n := 3) (As := [.int 1, .int 0, .int 3]) (rest := []) F hP hD hS (a_X11_within_23 l g aC aM ) [] (by decide) rfl tb1511 tb1509 tb1510 tb17 ⟨by decide, by decide, by decide +kernel⟩ ⟨Nat.le_of_ble_eq_true rfl, Nat.le_of_ble_eq_true rfl⟩ rfl hl.1 rfl (Nat.le_of_ble_eq_true rfl) dX11_mark_8 ⟨Nat.le_of_ble_eq_true rfl, Nat.le_of_ble_eq_true rfl⟩) hP hD hS hA [] [0, 1, 2, 3, 4, 5, 6, 7, 8, 9, 10, 11, 12] rfl rfl (by decide) (by decide) (fun r_2 w3 H locs hw hP hD hS => ?_)
  have hP : va_P g vwCl [(h1, .inr (11, [.int 0, x2, x3, x4, x5, x6, x7, x8, x9, x10, x11, x12, x13, x14, x15, x16, x17, x18, x19, x20, x21, x22, x23, x24, x25, x26, x27, x28, x29, x30, x31, x32, x33, x34, x35, x36, x37, x38, x39, x40, x41, x42, x43, x44, x45, x46, .ref h47, .ref h48, .ref h49, .ref h50, .ref h51, .ref h52, .ref h53, .ref h54, .ref h55, .ref h56, x57, .ref h58, x59, .ref h60, x61, x62, x63, x64, x65, x66, x67, x68, x69, x70, x71, x72, x73, x74])), (h47, .inl (aC 0, 6, .inl (fun _ => 0))), (h48, .inl (aC 0, 240, .inl (fun _ => 0))), (h49, .inl (aC 0, 240, .inl (fun _ => 0))), (h50, .inl (aC 0, 240, .inl (fun _ => 0))), (h51, .inl (aC 0, 240, .inl (fun _ => 0))), (h52, .inl (aC 0, 5, .inl (fun _ => 0))), (h53, .inl (aC 0, 40, .inl (fun _ => 0))), (h54, .inl (aC 0, 40, .inl (fun _ => 0))), (h55, .inl (aC 3, 40, .inl (fun _ => 0))), (h56, .inl (aC 0, 13, .inl (fun _ => 0))), (h58, .inl (aC 0, 52, .inl (fun _ => 0))), (h60, .inl (aC 3, 4, .inl (fun _ => 0)))] H := hP
  have hD : va_D A [(h1, .inr (11, [.int 0, x2, x3, x4, x5, x6, x7, x8, x9, x10, x11, x12, x13, x14, x15, x16, x17, x18, x19, x20, x21, x22, x23, x24, x25, x26, x27, x28, x29, x30, x31, x32, x33, x34, x35, x36, x37, x38, x39, x40, x41, x42, x43, x44, x45, x46, .ref h47, .ref h48, .ref h49, .ref h50, .ref h51, .ref h52, .ref h53, .ref h54, .ref h55, .ref h56, x57, .ref h58, x59, .ref h60, x61, x62, x63, x64, x65, x66, x67, x68, x69, x70, x71, x72, x73, x74])), (h47, .inl (aC 0, 6, .inl (fun _ => 0))), (h48, .inl (aC 0, 240, .inl (fun _ => 0))), (h49, .inl (aC 0, 240, .inl (fun _ => 0))), (h50, .inl (aC 0, 240, .inl (fun _ => 0))), (h51, .inl (aC 0, 240, .inl (fun _ => 0))), (h52, .inl (aC 0, 5, .inl (fun _ => 0))), (h53, .inl (aC 0, 40, .inl (fun _ => 0))), (h54, .inl (aC 0, 40, .inl (fun _ => 0))), (h55, .inl (aC 3, 40, .inl (fun _ => 0))), (h56, .inl (aC 0, 13, .inl (fun _ => 0))), (h58, .inl (aC 0, 52, .inl (fun _ => 0))), (h60, .inl (aC 3, 4, .inl (fun _ => 0)))] := hD
  try dsimp only at hw
  subst hw
  refine lv_if_eq (tgt := 27) hx hb dX11_mark_11 (by decide) (fun c_ => absurd c_ (by decide +kernel)) (fun _ => ?_)
  refine lv_iload_n hx hb dX11_mark_14 rfl (lv_at hl 2 rfl) ?_
  refine lv_if_eq (tgt := 29) hx hb dX11_mark_15 (by decide) (fun _ => ?_) (fun c_ => absurd (by decide +kernel) c_)
  refine lv_aload_n hx hb dX11_mark_29 rfl (lv_at hl 0 rfl) ?_
  refine xget F hP 0 rfl rfl inX11 59 (by decide) tb1241 rfl dX11_mark_30 ?_
  refine lv_iload_n hx hb dX11_mark_33 rfl (lv_at hl 1 rfl) ?_
  refine lv_iconst (v := 1) hx hb dX11_mark_34 (by decide) ?_
  refine xzst (f' := upd (fun _ => 0) 1 1) F hP hD hS 12 rfl 1 (by decide +kernel) (by decide +kernel) (by decide) (xup _ _ (by decide +kernel)) dX11_mark_35 (fun H locs hP hD hS => ?_)
  have hP : va_P g vwCl [(h1, .inr (11, [.int 0, x2, x3, x4, x5, x6, x7, x8, x9, x10, x11, x12, x13, x14, x15, x16, x17, x18, x19, x20, x21, x22, x23, x24, x25, x26, x27, x28, x29, x30, x31, x32, x33, x34, x35, x36, x37, x38, x39, x40, x41, x42, x43, x44, x45, x46, .ref h47, .ref h48, .ref h49, .ref h50, .ref h51, .ref h52, .ref h53, .ref h54, .ref h55, .ref h56, x57, .ref h58, x59, .ref h60, x61, x62, x63, x64, x65, x66, x67, x68, x69, x70, x71, x72, x73, x74])), (h47, .inl (aC 0, 6, .inl (fun _ => 0))), (h48, .inl (aC 0, 240, .inl (fun _ => 0))), (h49, .inl (aC 0, 240, .inl (fun _ => 0))), (h50, .inl (aC 0, 240, .inl (fun _ => 0))), (h51, .inl (aC 0, 240, .inl (fun _ => 0))), (h52, .inl (aC 0, 5, .inl (fun _ => 0))), (h53, .inl (aC 0, 40, .inl (fun _ => 0))), (h54, .inl (aC 0, 40, .inl (fun _ => 0))), (h55, .inl (aC 3, 40, .inl (fun _ => 0))), (h56, .inl (aC 0, 13, .inl (fun _ => 0))), (h58, .inl (aC 0, 52, .inl (fun _ => 0))), (h60, .inl (aC 3, 4, .inl (upd (fun _ => 0) 1 1)))] H := hP
  have hD : va_D A [(h1, .inr (11, [.int 0, x2, x3, x4, x5, x6, x7, x8, x9, x10, x11, x12, x13, x14, x15, x16, x17, x18, x19, x20, x21, x22, x23, x24, x25, x26, x27, x28, x29, x30, x31, x32, x33, x34, x35, x36, x37, x38, x39, x40, x41, x42, x43, x44, x45, x46, .ref h47, .ref h48, .ref h49, .ref h50, .ref h51, .ref h52, .ref h53, .ref h54, .ref h55, .ref h56, x57, .ref h58, x59, .ref h60, x61, x62, x63, x64, x65, x66, x67, x68, x69, x70, x71, x72, x73, x74])), (h47, .inl (aC 0, 6, .inl (fun _ => 0))), (h48, .inl (aC 0, 240, .inl (fun _ => 0))), (h49, .inl (aC 0, 240, .inl (fun _ => 0))), (h50, .inl (aC 0, 240, .inl (fun _ => 0))), (h51, .inl (aC 0, 240, .inl (fun _ => 0))), (h52, .inl (aC 0, 5, .inl (fun _ => 0))), (h53, .inl (aC 0, 40, .inl (fun _ => 0))), (h54, .inl (aC 0, 40, .inl (fun _ => 0))), (h55, .inl (aC 3, 40, .inl (fun _ => 0))), (h56, .inl (aC 0, 13, .inl (fun _ => 0))), (h58, .inl (aC 0, 52, .inl (fun _ => 0))), (h60, .inl (aC 3, 4, .inl (upd (fun _ => 0) 1 1)))] := hD
  refine lv_iload_n hx hb dX11_mark_36 rfl (lv_at hl 2 rfl) ?_
  refine lv_if_eq (tgt := 46) hx hb dX11_mark_37 (by decide) (fun _ => ?_) (fun c_ => absurd (by decide +kernel) c_)
  refine lv_iconst (v := 0) hx hb dX11_mark_46 (by decide) ?_
  refine lv_istore_n (lv' := [(3, .int 0), (0, .ref h1), (1, .int 1), (2, .int 0)]) hx hb dX11_mark_47 rfl hl (by decide) rfl (fun ls hl => ?_)
  refine lv_iload_n hx hb dX11_mark_48 rfl (lv_at hl 3 rfl) ?_
  refine lv_if_eq (tgt := 56) hx hb dX11_mark_49 (by decide) (fun _ => ?_) (fun c_ => absurd (by decide +kernel) c_)
  refine lv_iconst (v := 1) hx hb dX11_mark_56 (by decide) ?_
  refine lv_iload_n hx hb dX11_mark_57 rfl (lv_at hl 2 rfl) ?_
  refine lv_iadd hx hb dX11_mark_58 ?_
  refine relit (v := 2) (by decide +kernel) ?_
  refine lv_istore (lv' := [(4, .int 2), (3, .int 0), (0, .ref h1), (1, .int 1), (2, .int 0)]) hx hb dX11_mark_59 hl (by decide) rfl (fun ls hl => ?_)
  refine lv_aload_n hx hb dX11_mark_61 rfl (lv_at hl 2 rfl) ?_
  refine lv_iload_n hx hb dX11_mark_62 rfl (lv_at hl 1 rfl) ?_
  refine lv_iload hx hb dX11_mark_63 (lv_at hl 0 rfl) ?_
  refine goV (wr := [(h52, .inl (aC 0, 5, .inl (fun _ => 0))), (h53, .inl (aC 0, 40, .inl (fun _ => 0))), (h54, .inl (aC 0, 40, .inl (fun _ => 0))), (h55, .inl (aC 3, 40, .inl (fun _ => 0))), (h56, .inl (aC 0, 13, .inl (fun _ => 0))), (h58, .inl (aC 0, 52, .inl (fun _ => 0))), (h60, .inl (aC 3, 4, .inl (upd (fun _ => 0) 1 1)))]) (runV (n := 2) (As := [.int 0, .int 2]) (rest := []) F hP hD hS (k_laysLines_0_2 l g aC aM h1 h47 h48 h49 h50 h51 (.int 0) x2 x3 x4 x5 x6 x7 x8 x9 x10 x11 x12 x13 x14 x15 x16 x17 x18 x19 x20 x21 x22 x23 x24 x25 x26 x27 x28 x29 x30 x31 x32 x33 x34 x35 x36 x37 x38 x39 x40 x41 x42 x43 x44 x45 x46 (.ref h52) (.ref h53) (.ref h54) (.ref h55) (.ref h56) x57 (.ref h58) x59 (.ref h60) x61 x62 x63 x64 x65 x66 x67 x68 x69 x70 x71 x72 x73 x74) [0, 1, 2, 3, 4, 5] (by decide) rfl 0 11 rfl rfl rfl tb1608 tb1605 tb1607 tv68 tb17 ⟨by decide, by decide, by decide +kernel⟩ ⟨Nat.le_of_ble_eq_true rfl, Nat.le_of_ble_eq_true rfl⟩ rfl hl.1 rfl (Nat.le_of_ble_eq_true rfl) dX11_mark_65 ⟨Nat.le_of_ble_eq_true rfl, Nat.le_of_ble_eq_true rfl⟩) hP hD hS hA [0, 1, 2, 3, 4, 5] [6, 7, 8, 9, 10, 11, 12] rfl rfl (by decide) (by decide) (fun w10 H locs hw hP hD hS => ?_)
  have hP : va_P g vwCl [(h52, .inl (aC 0, 5, .inl (fun _ => 0))), (h53, .inl (aC 0, 40, .inl (fun _ => 0))), (h54, .inl (aC 0, 40, .inl (fun _ => 0))), (h55, .inl (aC 3, 40, .inl (fun _ => 0))), (h56, .inl (aC 0, 13, .inl (fun _ => 0))), (h58, .inl (aC 0, 52, .inl (fun _ => 0))), (h60, .inl (aC 3, 4, .inl (upd (fun _ => 0) 1 1))), (h1, .inr (11, [.int 0, x2, x3, x4, x5, x6, x7, x8, x9, x10, x11, x12, x13, x14, x15, x16, x17, x18, x19, x20, x21, x22, x23, x24, x25, x26, x27, x28, x29, x30, x31, x32, x33, x34, x35, x36, x37, x38, x39, x40, x41, x42, x43, x44, x45, x46, .ref h47, .ref h48, .ref h49, .ref h50, .ref h51, .ref h52, .ref h53, .ref h54, .ref h55, .ref h56, x57, .ref h58, x59, .ref h60, x61, x62, x63, x64, x65, x66, x67, x68, x69, x70, x71, x72, x73, x74])), (h47, .inl (aC 0, 6, .inl (fun _ => 0))), (h48, .inl (aC 0, 240, .inl (fun _ => 0))), (h49, .inl (aC 0, 240, .inl (fun _ => 0))), (h50, .inl (aC 0, 240, .inl (fun _ => 0))), (h51, .inl (aC 0, 240, .inl (fun _ => 0)))] H := hP
  have hD : va_D A [(h52, .inl (aC 0, 5, .inl (fun _ => 0))), (h53, .inl (aC 0, 40, .inl (fun _ => 0))), (h54, .inl (aC 0, 40, .inl (fun _ => 0))), (h55, .inl (aC 3, 40, .inl (fun _ => 0))), (h56, .inl (aC 0, 13, .inl (fun _ => 0))), (h58, .inl (aC 0, 52, .inl (fun _ => 0))), (h60, .inl (aC 3, 4, .inl (upd (fun _ => 0) 1 1))), (h1, .inr (11, [.int 0, x2, x3, x4, x5, x6, x7, x8, x9, x10, x11, x12, x13, x14, x15, x16, x17, x18, x19, x20, x21, x22, x23, x24, x25, x26, x27, x28, x29, x30, x31, x32, x33, x34, x35, x36, x37, x38, x39, x40, x41, x42, x43, x44, x45, x46, .ref h47, .ref h48, .ref h49, .ref h50, .ref h51, .ref h52, .ref h53, .ref h54, .ref h55, .ref h56, x57, .ref h58, x59, .ref h60, x61, x62, x63, x64, x65, x66, x67, x68, x69, x70, x71, x72, x73, x74])), (h47, .inl (aC 0, 6, .inl (fun _ => 0))), (h48, .inl (aC 0, 240, .inl (fun _ => 0))), (h49, .inl (aC 0, 240, .inl (fun _ => 0))), (h50, .inl (aC 0, 240, .inl (fun _ => 0))), (h51, .inl (aC 0, 240, .inl (fun _ => 0)))] := hD
  refine lv_aload_n hx hb dX11_mark_68 rfl (lv_at hl 2 rfl) ?_
  refine lv_iload_n hx hb dX11_mark_69 rfl (lv_at hl 1 rfl) ?_
  refine lv_iload hx hb dX11_mark_70 (lv_at hl 0 rfl) ?_
  refine goV (wr := [(h56, .inl (aC 0, 13, .inl (fun _ => 0))), (h58, .inl (aC 0, 52, .inl (fun _ => 0))), (h60, .inl (aC 3, 4, .inl (upd (fun _ => 0) 1 1))), (h47, .inl (aC 0, 6, .inl (fun _ => 0))), (h48, .inl (aC 0, 240, .inl (fun _ => 0))), (h49, .inl (aC 0, 240, .inl (fun _ => 0))), (h50, .inl (aC 0, 240, .inl (fun _ => 0))), (h51, .inl (aC 0, 240, .inl (fun _ => 0)))]) (runV (n := 2) (As := [.int 0, .int 2]) (rest := []) F hP hD hS (k_laysSeen_0_2 l g aC aM h1 h52 h53 h54 h55 (.int 0) x2 x3 x4 x5 x6 x7 x8 x9 x10 x11 x12 x13 x14 x15 x16 x17 x18 x19 x20 x21 x22 x23 x24 x25 x26 x27 x28 x29 x30 x31 x32 x33 x34 x35 x36 x37 x38 x39 x40 x41 x42 x43 x44 x45 x46 (.ref h47) (.ref h48) (.ref h49) (.ref h50) (.ref h51) (.ref h56) x57 (.ref h58) x59 (.ref h60) x61 x62 x63 x64 x65 x66 x67 x68 x69 x70 x71 x72 x73 x74) [7, 0, 1, 2, 3] (by decide) rfl 7 11 rfl rfl rfl tb1917 tb1914 tb1916 tv113 tb17 ⟨by decide, by decide, by decide +kernel⟩ ⟨Nat.le_of_ble_eq_true rfl, Nat.le_of_ble_eq_true rfl⟩ rfl hl.1 rfl (Nat.le_of_ble_eq_true rfl) dX11_mark_72 ⟨Nat.le_of_ble_eq_true rfl, Nat.le_of_ble_eq_true rfl⟩) hP hD hS hA [7, 0, 1, 2, 3] [4, 5, 6, 8, 9, 10, 11, 12] rfl rfl (by decide) (by decide) (fun w13 H locs hw hP hD hS => ?_)
  have hP : va_P g vwCl [(h56, .inl (aC 0, 13, .inl (fun _ => 0))), (h58, .inl (aC 0, 52, .inl (fun _ => 0))), (h60, .inl (aC 3, 4, .inl (upd (fun _ => 0) 1 1))), (h47, .inl (aC 0, 6, .inl (fun _ => 0))), (h48, .inl (aC 0, 240, .inl (fun _ => 0))), (h49, .inl (aC 0, 240, .inl (fun _ => 0))), (h50, .inl (aC 0, 240, .inl (fun _ => 0))), (h51, .inl (aC 0, 240, .inl (fun _ => 0))), (h1, .inr (11, [.int 0, x2, x3, x4, x5, x6, x7, x8, x9, x10, x11, x12, x13, x14, x15, x16, x17, x18, x19, x20, x21, x22, x23, x24, x25, x26, x27, x28, x29, x30, x31, x32, x33, x34, x35, x36, x37, x38, x39, x40, x41, x42, x43, x44, x45, x46, .ref h47, .ref h48, .ref h49, .ref h50, .ref h51, .ref h52, .ref h53, .ref h54, .ref h55, .ref h56, x57, .ref h58, x59, .ref h60, x61, x62, x63, x64, x65, x66, x67, x68, x69, x70, x71, x72, x73, x74])), (h52, .inl (aC 0, 5, .inl (fun _ => 0))), (h53, .inl (aC 0, 40, .inl (fun _ => 0))), (h54, .inl (aC 0, 40, .inl (fun _ => 0))), (h55, .inl (aC 3, 40, .inl (fun _ => 0)))] H := hP
  have hD : va_D A [(h56, .inl (aC 0, 13, .inl (fun _ => 0))), (h58, .inl (aC 0, 52, .inl (fun _ => 0))), (h60, .inl (aC 3, 4, .inl (upd (fun _ => 0) 1 1))), (h47, .inl (aC 0, 6, .inl (fun _ => 0))), (h48, .inl (aC 0, 240, .inl (fun _ => 0))), (h49, .inl (aC 0, 240, .inl (fun _ => 0))), (h50, .inl (aC 0, 240, .inl (fun _ => 0))), (h51, .inl (aC 0, 240, .inl (fun _ => 0))), (h1, .inr (11, [.int 0, x2, x3, x4, x5, x6, x7, x8, x9, x10, x11, x12, x13, x14, x15, x16, x17, x18, x19, x20, x21, x22, x23, x24, x25, x26, x27, x28, x29, x30, x31, x32, x33, x34, x35, x36, x37, x38, x39, x40, x41, x42, x43, x44, x45, x46, .ref h47, .ref h48, .ref h49, .ref h50, .ref h51, .ref h52, .ref h53, .ref h54, .ref h55, .ref h56, x57, .ref h58, x59, .ref h60, x61, x62, x63, x64, x65, x66, x67, x68, x69, x70, x71, x72, x73, x74])), (h52, .inl (aC 0, 5, .inl (fun _ => 0))), (h53, .inl (aC 0, 40, .inl (fun _ => 0))), (h54, .inl (aC 0, 40, .inl (fun _ => 0))), (h55, .inl (aC 3, 40, .inl (fun _ => 0)))] := hD
  refine lv_iload_n hx hb dX11_mark_75 rfl (lv_at hl 4 rfl) ?_
  refine lv_if_eq (tgt := 103) hx hb dX11_mark_76 (by decide) (fun _ => ?_) (fun c_ => absurd (by decide +kernel) c_)
  refine lv_aload_n hx hb dX11_mark_103 rfl (lv_at hl 2 rfl) ?_
  refine xget F hP 8 rfl rfl inX11 55 (by decide) tb1237 rfl dX11_mark_104 ?_
  refine lv_iconst (v := 0) hx hb dX11_mark_107 (by decide) ?_
  refine lv_aload_n hx hb dX11_mark_108 rfl (lv_at hl 2 rfl) ?_
  refine xget F hP 8 rfl rfl inX11 57 (by decide) tb1239 rfl dX11_mark_109 ?_
  refine lv_bipush (v := 13) hx hb dX11_mark_112 (by decide) ?_
  refine lv_iload_n hx hb dX11_mark_114 rfl (lv_at hl 3 rfl) ?_
  refine lv_imul hx hb dX11_mark_115 ?_
  refine relit (v := 13) (by decide +kernel) ?_
  refine goV (wr := [(h60, .inl (aC 3, 4, .inl (upd (fun _ => 0) 1 1))), (h47, .inl (aC 0, 6, .inl (fun _ => 0))), (h48, .inl (aC 0, 240, .inl (fun _ => 0))), (h49, .inl (aC 0, 240, .inl (fun _ => 0))), (h50, .inl (aC 0, 240, .inl (fun _ => 0))), (h51, .inl (aC 0, 240, .inl (fun _ => 0))), (h1, .inr (11, [.int 0, x2, x3, x4, x5, x6, x7, x8, x9, x10, x11, x12, x13, x14, x15, x16, x17, x18, x19, x20, x21, x22, x23, x24, x25, x26, x27, x28, x29, x30, x31, x32, x33, x34, x35, x36, x37, x38, x39, x40, x41, x42, x43, x44, x45, x46, .ref h47, .ref h48, .ref h49, .ref h50, .ref h51, .ref h52, .ref h53, .ref h54, .ref h55, .ref h56, x57, .ref h58, x59, .ref h60, x61, x62, x63, x64, x65, x66, x67, x68, x69, x70, x71, x72, x73, x74])), (h52, .inl (aC 0, 5, .inl (fun _ => 0))), (h53, .inl (aC 0, 40, .inl (fun _ => 0))), (h54, .inl (aC 0, 40, .inl (fun _ => 0))), (h55, .inl (aC 3, 40, .inl (fun _ => 0)))]) (runS (n := 4) (As := [.ref h56, .int 0, .ref h58, .int 13]) (rest := []) F hP hD hS (a_X11_copies_5 l g aC aM h56 h58) [0, 1] (by decide) rfl tb1700 tb1698 tb1699 tb17 ⟨by decide, by decide, by decide +kernel⟩ ⟨Nat.le_of_ble_eq_true rfl, Nat.le_of_ble_eq_true rfl⟩ rfl hl.1 rfl (Nat.le_of_ble_eq_true rfl) dX11_mark_116 ⟨Nat.le_of_ble_eq_true rfl, Nat.le_of_ble_eq_true rfl⟩) hP hD hS hA [0, 1] [2, 3, 4, 5, 6, 7, 8, 9, 10, 11, 12] rfl rfl (by decide) (by decide) (fun w17 H locs hw hP hD hS => ?_)
  have hP : va_P g vwCl [(h60, .inl (aC 3, 4, .inl (upd (fun _ => 0) 1 1))), (h47, .inl (aC 0, 6, .inl (fun _ => 0))), (h48, .inl (aC 0, 240, .inl (fun _ => 0))), (h49, .inl (aC 0, 240, .inl (fun _ => 0))), (h50, .inl (aC 0, 240, .inl (fun _ => 0))), (h51, .inl (aC 0, 240, .inl (fun _ => 0))), (h1, .inr (11, [.int 0, x2, x3, x4, x5, x6, x7, x8, x9, x10, x11, x12, x13, x14, x15, x16, x17, x18, x19, x20, x21, x22, x23, x24, x25, x26, x27, x28, x29, x30, x31, x32, x33, x34, x35, x36, x37, x38, x39, x40, x41, x42, x43, x44, x45, x46, .ref h47, .ref h48, .ref h49, .ref h50, .ref h51, .ref h52, .ref h53, .ref h54, .ref h55, .ref h56, x57, .ref h58, x59, .ref h60, x61, x62, x63, x64, x65, x66, x67, x68, x69, x70, x71, x72, x73, x74])), (h52, .inl (aC 0, 5, .inl (fun _ => 0))), (h53, .inl (aC 0, 40, .inl (fun _ => 0))), (h54, .inl (aC 0, 40, .inl (fun _ => 0))), (h55, .inl (aC 3, 40, .inl (fun _ => 0))), (h56, .inl (aC 0, 13, .inl (fun _ => 0))), (h58, .inl (aC 0, 52, .inl (fun _ => 0)))] H := hP
  have hD : va_D A [(h60, .inl (aC 3, 4, .inl (upd (fun _ => 0) 1 1))), (h47, .inl (aC 0, 6, .inl (fun _ => 0))), (h48, .inl (aC 0, 240, .inl (fun _ => 0))), (h49, .inl (aC 0, 240, .inl (fun _ => 0))), (h50, .inl (aC 0, 240, .inl (fun _ => 0))), (h51, .inl (aC 0, 240, .inl (fun _ => 0))), (h1, .inr (11, [.int 0, x2, x3, x4, x5, x6, x7, x8, x9, x10, x11, x12, x13, x14, x15, x16, x17, x18, x19, x20, x21, x22, x23, x24, x25, x26, x27, x28, x29, x30, x31, x32, x33, x34, x35, x36, x37, x38, x39, x40, x41, x42, x43, x44, x45, x46, .ref h47, .ref h48, .ref h49, .ref h50, .ref h51, .ref h52, .ref h53, .ref h54, .ref h55, .ref h56, x57, .ref h58, x59, .ref h60, x61, x62, x63, x64, x65, x66, x67, x68, x69, x70, x71, x72, x73, x74])), (h52, .inl (aC 0, 5, .inl (fun _ => 0))), (h53, .inl (aC 0, 40, .inl (fun _ => 0))), (h54, .inl (aC 0, 40, .inl (fun _ => 0))), (h55, .inl (aC 3, 40, .inl (fun _ => 0))), (h56, .inl (aC 0, 13, .inl (fun _ => 0))), (h58, .inl (aC 0, 52, .inl (fun _ => 0)))] := hD
  refine lv_iconst (v := 1) hx hb dX11_mark_119 (by decide) ?_
  have hP9 := hP.sub (ws' := []) [] rfl
  have hD9 := hD.sub (ws' := []) [] (by decide) rfl
  exact rI () hx hb hr hlk rfl hS rfl hP9 hD9 (Nat.le_of_ble_eq_true rfl) (Nat.le_of_ble_eq_true rfl) dX11_mark_120

set_option maxHeartbeats 4000000 in
set_option maxRecDepth 100000 in
theorem m_mark_20 (l : Launch) (g : va_G) (aC : Nat → ClassId) (aM : Nat → Nat) (h1 h47 h48 h49 h50 h51 h52 h53 h54 h55 h56 h58 h60 : Nat) (x2 x3 x4 x5 x6 x7 x8 x9 x10 x11 x12 x13 x14 x15 x16 x17 x18 x19 x20 x21 x22 x23 x24 x25 x26 x27 x28 x29 x30 x31 x32 x33 x34 x35 x36 x37 x38 x39 x40 x41 x42 x43 x44 x45 x46 x57 x59 x61 x62 x63 x64 x65 x66 x67 x68 x69 x70 x71 x72 x73 x74 : Value) : Ct l g aC aM yX11_mark cX11_mark 5 (some .boolean) 2 [.ref h1, .int 2, .int 0] [(h1, .inr (11, [.int 0, x2, x3, x4, x5, x6, x7, x8, x9, x10, x11, x12, x13, x14, x15, x16, x17, x18, x19, x20, x21, x22, x23, x24, x25, x26, x27, x28, x29, x30, x31, x32, x33, x34, x35, x36, x37, x38, x39, x40, x41, x42, x43, x44, x45, x46, .ref h47, .ref h48, .ref h49, .ref h50, .ref h51, .ref h52, .ref h53, .ref h54, .ref h55, .ref h56, x57, .ref h58, x59, .ref h60, x61, x62, x63, x64, x65, x66, x67, x68, x69, x70, x71, x72, x73, x74])), (h47, .inl (aC 0, 6, .inl (fun _ => 0))), (h48, .inl (aC 0, 240, .inl (fun _ => 0))), (h49, .inl (aC 0, 240, .inl (fun _ => 0))), (h50, .inl (aC 0, 240, .inl (fun _ => 0))), (h51, .inl (aC 0, 240, .inl (fun _ => 0))), (h52, .inl (aC 0, 5, .inl (fun _ => 0))), (h53, .inl (aC 0, 40, .inl (fun _ => 0))), (h54, .inl (aC 0, 40, .inl (fun _ => 0))), (h55, .inl (aC 3, 40, .inl (fun _ => 0))), (h56, .inl (aC 0, 13, .inl (fun _ => 0))), (h58, .inl (aC 0, 52, .inl (fun _ => 0))), (h60, .inl (aC 3, 4, .inl (fun _ => 0)))] (QI g (fun (r : Int32) (_ : Unit) => r = 1) (fun (_ : Unit) => [])) 0 0 := by
  refine Ct.mk (by decide) (Nat.le_of_ble_eq_true rfl) ?_
  intro p e s m below meth c A ls hx hb hml hown hts hr hlk hnm hK hA hM hM2 hP hD hS hl
  have hown : s.vm.findClass RX11 = some m.cls := hown
  have F : Fx p s m _ c cX11_mark 5 RX11 g aC aM A := ⟨hx, hb, hml, hown, hts, hK, hA, hM, hM2⟩
  have hl : lv_has ls 5 [(0, .ref h1), (1, .int 2), (2, .int 0)] := hl
  refine lv_aload_n hx hb dX11_mark_0 rfl (lv_at hl 0 rfl) ?_
  refine lv_iconst (v := 0) hx hb dX11_mark_1 (by decide) ?_
  refine xput F hP hD hS 0 rfl rfl inX11 tyX11_ok nmX11 0 (by decide) tb1182 rfl rfl rfl (Nat.le_of_ble_eq_true rfl) dX11_mark_2 (fun H locs hP hD hS => ?_)
  have hP : va_P g vwCl [(h1, .inr (11, [.int 0, x2, x3, x4, x5, x6, x7, x8, x9, x10, x11, x12, x13, x14, x15, x16, x17, x18, x19, x20, x21, x22, x23, x24, x25, x26, x27, x28, x29, x30, x31, x32, x33, x34, x35, x36, x37, x38, x39, x40, x41, x42, x43, x44, x45, x46, .ref h47, .ref h48, .ref h49, .ref h50, .ref h51, .ref h52, .ref h53, .ref h54, .ref h55, .ref h56, x57, .ref h58, x59, .ref h60, x61, x62, x63, x64, x65, x66, x67, x68, x69, x70, x71, x72, x73, x74])), (h47, .inl (aC 0, 6, .inl (fun _ => 0))), (h48, .inl (aC 0, 240, .inl (fun _ => 0))), (h49, .inl (aC 0, 240, .inl (fun _ => 0))), (h50, .inl (aC 0, 240, .inl (fun _ => 0))), (h51, .inl (aC 0, 240, .inl (fun _ => 0))), (h52, .inl (aC 0, 5, .inl (fun _ => 0))), (h53, .inl (aC 0, 40, .inl (fun _ => 0))), (h54, .inl (aC 0, 40, .inl (fun _ => 0))), (h55, .inl (aC 3, 40, .inl (fun _ => 0))), (h56, .inl (aC 0, 13, .inl (fun _ => 0))), (h58, .inl (aC 0, 52, .inl (fun _ => 0))), (h60, .inl (aC 3, 4, .inl (fun _ => 0)))] H := hP
  have hD : va_D A [(h1, .inr (11, [.int 0, x2, x3, x4, x5, x6, x7, x8, x9, x10, x11, x12, x13, x14, x15, x16, x17, x18, x19, x20, x21, x22, x23, x24, x25, x26, x27, x28, x29, x30, x31, x32, x33, x34, x35, x36, x37, x38, x39, x40, x41, x42, x43, x44, x45, x46, .ref h47, .ref h48, .ref h49, .ref h50, .ref h51, .ref h52, .ref h53, .ref h54, .ref h55, .ref h56, x57, .ref h58, x59, .ref h60, x61, x62, x63, x64, x65, x66, x67, x68, x69, x70, x71, x72, x73, x74])), (h47, .inl (aC 0, 6, .inl (fun _ => 0))), (h48, .inl (aC 0, 240, .inl (fun _ => 0))), (h49, .inl (aC 0, 240, .inl (fun _ => 0))), (h50, .inl (aC 0, 240, .inl (fun _ => 0))), (h51, .inl (aC 0, 240, .inl (fun _ => 0))), (h52, .inl (aC 0, 5, .inl (fun _ => 0))), (h53, .inl (aC 0, 40, .inl (fun _ => 0))), (h54, .inl (aC 0, 40, .inl (fun _ => 0))), (h55, .inl (aC 3, 40, .inl (fun _ => 0))), (h56, .inl (aC 0, 13, .inl (fun _ => 0))), (h58, .inl (aC 0, 52, .inl (fun _ => 0))), (h60, .inl (aC 3, 4, .inl (fun _ => 0)))] := hD
  refine lv_iload_n hx hb dX11_mark_5 rfl (lv_at hl 1 rfl) ?_
  refine lv_iconst (v := 0) hx hb dX11_mark_6 (by decide) ?_
  refine lv_iconst (v := 3) hx hb dX11_mark_7 (by decide) ?_
  refine goI (wr := [(h1, .inr (11, [.int 0, x2, x3, x4, x5, x6, x7, x8, x9, x10, x11, x12, x13, x14, x15, x16, x17, x18, x19, x20, x21, x22, x23, x24, x25, x26, x27, x28, x29, x30, x31, x32, x33, x34, x35, x36, x37, x38, x39, x40, x41, x42, x43, x44, x45, x46, .ref h47, .ref h48, .ref h49, .ref h50, .ref h51, .ref h52, .ref h53, .ref h54, .ref h55, .ref h56, x57, .ref h58, x59, .ref h60, x61, x62, x63, x64, x65, x66, x67, x68, x69, x70, x71, x72, x73, x74])), (h47, .inl (aC 0, 6, .inl (fun _ => 0))), (h48, .inl (aC 0, 240, .inl (fun _ => 0))), (h49, .inl (aC 0, 240, .inl (fun _ => 0))), (h50, .inl (aC 0, 240, .inl (fun _ => 0))), (h51, .inl (aC 0, 240, .inl (fun _ => 0))), (h52, .inl (aC 0, 5, .inl (fun _ => 0))), (h53, .inl (aC 0, 40, .inl (fun _ => 0))), (h54, .inl (aC 0, 40, .inl (fun _ => 0))), (h55, .inl (aC 3, 40, .inl (fun _ => 0))), (h56, .inl (aC 0, 13, .inl (fun _ => 0))), (h58, .inl (aC 0, 52, .inl (fun _ => 0))), (h60, .inl (aC 3, 4, .inl (fun _ => 0)))]) (runS (n := 3) (As := [.int 2, .int 0, .int 3]) (rest := []) F hP hD hS (a_X11_within_24 l g aC aM ) [] (by decide) rfl tb1511 tb1509 tb1510 tb17 ⟨by decide, by decide, by decide +kernel⟩ ⟨Nat.le_of_ble_eq_true rfl, Nat.le_of_ble_eq_true rfl⟩ rfl hl.1 rfl (Nat.le_of_ble_eq_true rfl) dX11_mark_8 ⟨Nat.le_of_ble_eq_true rfl, Nat.le_of_ble_eq_true rfl⟩) hP hD hS hA [] [0, 1, 2, 3, 4, 5, 6, 7, 8, 9, 10, 11, 12] rfl rfl (by decide) (by decide) (fun r_2 w3 H locs hw hP hD hS => ?_)
  have hP : va_P g vwCl [(h1, .inr (11, [.int 0, x2, x3, x4, x5, x6, x7, x8, x9, x10, x11, x12, x13, x14, x15, x16, x17, x18, x19, x20, x21, x22, x23, x24, x25, x26, x27, x28, x29, x30, x31, x32, x33, x34, x35, x36, x37, x38, x39, x40, x41, x42, x43, x44, x45, x46, .ref h47, .ref h48, .ref h49, .ref h50, .ref h51, .ref h52, .ref h53, .ref h54, .ref h55, .ref h56, x57, .ref h58, x59, .ref h60, x61, x62, x63, x64, x65, x66, x67, x68, x69, x70, x71, x72, x73, x74])), (h47, .inl (aC 0, 6, .inl (fun _ => 0))), (h48, .inl (aC 0, 240, .inl (fun _ => 0))), (h49, .inl (aC 0, 240, .inl (fun _ => 0))), (h50, .inl (aC 0, 240, .inl (fun _ => 0))), (h51, .inl (aC 0, 240, .inl (fun _ => 0))), (h52, .inl (aC 0, 5, .inl (fun _ => 0))), (h53, .inl (aC 0, 40, .inl (fun _ => 0))), (h54, .inl (aC 0, 40, .inl (fun _ => 0))), (h55, .inl (aC 3, 40, .inl (fun _ => 0))), (h56, .inl (aC 0, 13, .inl (fun _ => 0))), (h58, .inl (aC 0, 52, .inl (fun _ => 0))), (h60, .inl (aC 3, 4, .inl (fun _ => 0)))] H := hP
  have hD : va_D A [(h1, .inr (11, [.int 0, x2, x3, x4, x5, x6, x7, x8, x9, x10, x11, x12, x13, x14, x15, x16, x17, x18, x19, x20, x21, x22, x23, x24, x25, x26, x27, x28, x29, x30, x31, x32, x33, x34, x35, x36, x37, x38, x39, x40, x41, x42, x43, x44, x45, x46, .ref h47, .ref h48, .ref h49, .ref h50, .ref h51, .ref h52, .ref h53, .ref h54, .ref h55, .ref h56, x57, .ref h58, x59, .ref h60, x61, x62, x63, x64, x65, x66, x67, x68, x69, x70, x71, x72, x73, x74])), (h47, .inl (aC 0, 6, .inl (fun _ => 0))), (h48, .inl (aC 0, 240, .inl (fun _ => 0))), (h49, .inl (aC 0, 240, .inl (fun _ => 0))), (h50, .inl (aC 0, 240, .inl (fun _ => 0))), (h51, .inl (aC 0, 240, .inl (fun _ => 0))), (h52, .inl (aC 0, 5, .inl (fun _ => 0))), (h53, .inl (aC 0, 40, .inl (fun _ => 0))), (h54, .inl (aC 0, 40, .inl (fun _ => 0))), (h55, .inl (aC 3, 40, .inl (fun _ => 0))), (h56, .inl (aC 0, 13, .inl (fun _ => 0))), (h58, .inl (aC 0, 52, .inl (fun _ => 0))), (h60, .inl (aC 3, 4, .inl (fun _ => 0)))] := hD
  try dsimp only at hw
  subst hw
  refine lv_if_eq (tgt := 27) hx hb dX11_mark_11 (by decide) (fun c_ => absurd c_ (by decide +kernel)) (fun _ => ?_)
  refine lv_iload_n hx hb dX11_mark_14 rfl (lv_at hl 2 rfl) ?_
  refine lv_if_eq (tgt := 29) hx hb dX11_mark_15 (by decide) (fun _ => ?_) (fun c_ => absurd (by decide +kernel) c_)
  refine lv_aload_n hx hb dX11_mark_29 rfl (lv_at hl 0 rfl) ?_
  refine xget F hP 0 rfl rfl inX11 59 (by decide) tb1241 rfl dX11_mark_30 ?_
  refine lv_iload_n hx hb dX11_mark_33 rfl (lv_at hl 1 rfl) ?_
  refine lv_iconst (v := 1) hx hb dX11_mark_34 (by decide) ?_
  refine xzst (f' := upd (fun _ => 0) 2 1) F hP hD hS 12 rfl 2 (by decide +kernel) (by decide +kernel) (by decide) (xup _ _ (by decide +kernel)) dX11_mark_35 (fun H locs hP hD hS => ?_)
  have hP : va_P g vwCl [(h1, .inr (11, [.int 0, x2, x3, x4, x5, x6, x7, x8, x9, x10, x11, x12, x13, x14, x15, x16, x17, x18, x19, x20, x21, x22, x23, x24, x25, x26, x27, x28, x29, x30, x31, x32, x33, x34, x35, x36, x37, x38, x39, x40, x41, x42, x43, x44, x45, x46, .ref h47, .ref h48, .ref h49, .ref h50, .ref h51, .ref h52, .ref h53, .ref h54, .ref h55, .ref h56, x57, .ref h58, x59, .ref h60, x61, x62, x63, x64, x65, x66, x67, x68, x69, x70, x71, x72, x73, x74])), (h47, .inl (aC 0, 6, .inl (fun _ => 0))), (h48, .inl (aC 0, 240, .inl (fun _ => 0))), (h49, .inl (aC 0, 240, .inl (fun _ => 0))), (h50, .inl (aC 0, 240, .inl (fun _ => 0))), (h51, .inl (aC 0, 240, .inl (fun _ => 0))), (h52, .inl (aC 0, 5, .inl (fun _ => 0))), (h53, .inl (aC 0, 40, .inl (fun _ => 0))), (h54, .inl (aC 0, 40, .inl (fun _ => 0))), (h55, .inl (aC 3, 40, .inl (fun _ => 0))), (h56, .inl (aC 0, 13, .inl (fun _ => 0))), (h58, .inl (aC 0, 52, .inl (fun _ => 0))), (h60, .inl (aC 3, 4, .inl (upd (fun _ => 0) 2 1)))] H := hP
  have hD : va_D A [(h1, .inr (11, [.int 0, x2, x3, x4, x5, x6, x7, x8, x9, x10, x11, x12, x13, x14, x15, x16, x17, x18, x19, x20, x21, x22, x23, x24, x25, x26, x27, x28, x29, x30, x31, x32, x33, x34, x35, x36, x37, x38, x39, x40, x41, x42, x43, x44, x45, x46, .ref h47, .ref h48, .ref h49, .ref h50, .ref h51, .ref h52, .ref h53, .ref h54, .ref h55, .ref h56, x57, .ref h58, x59, .ref h60, x61, x62, x63, x64, x65, x66, x67, x68, x69, x70, x71, x72, x73, x74])), (h47, .inl (aC 0, 6, .inl (fun _ => 0))), (h48, .inl (aC 0, 240, .inl (fun _ => 0))), (h49, .inl (aC 0, 240, .inl (fun _ => 0))), (h50, .inl (aC 0, 240, .inl (fun _ => 0))), (h51, .inl (aC 0, 240, .inl (fun _ => 0))), (h52, .inl (aC 0, 5, .inl (fun _ => 0))), (h53, .inl (aC 0, 40, .inl (fun _ => 0))), (h54, .inl (aC 0, 40, .inl (fun _ => 0))), (h55, .inl (aC 3, 40, .inl (fun _ => 0))), (h56, .inl (aC 0, 13, .inl (fun _ => 0))), (h58, .inl (aC 0, 52, .inl (fun _ => 0))), (h60, .inl (aC 3, 4, .inl (upd (fun _ => 0) 2 1)))] := hD
  refine lv_iload_n hx hb dX11_mark_36 rfl (lv_at hl 2 rfl) ?_
  refine lv_if_eq (tgt := 46) hx hb dX11_mark_37 (by decide) (fun _ => ?_) (fun c_ => absurd (by decide +kernel) c_)
  refine lv_iconst (v := 0) hx hb dX11_mark_46 (by decide) ?_
  refine lv_istore_n (lv' := [(3, .int 0), (0, .ref h1), (1, .int 2), (2, .int 0)]) hx hb dX11_mark_47 rfl hl (by decide) rfl (fun ls hl => ?_)
  refine lv_iload_n hx hb dX11_mark_48 rfl (lv_at hl 3 rfl) ?_
  refine lv_if_eq (tgt := 56) hx hb dX11_mark_49 (by decide) (fun _ => ?_) (fun c_ => absurd (by decide +kernel) c_)
  refine lv_iconst (v := 1) hx hb dX11_mark_56 (by decide) ?_
  refine lv_iload_n hx hb dX11_mark_57 rfl (lv_at hl 2 rfl) ?_
  refine lv_iadd hx hb dX11_mark_58 ?_
  refine relit (v := 3) (by decide +kernel) ?_
  refine lv_istore (lv' := [(4, .int 3), (3, .int 0), (0, .ref h1), (1, .int 2), (2, .int 0)]) hx hb dX11_mark_59 hl (by decide) rfl (fun ls hl => ?_)
  refine lv_aload_n hx hb dX11_mark_61 rfl (lv_at hl 2 rfl) ?_
  refine lv_iload_n hx hb dX11_mark_62 rfl (lv_at hl 1 rfl) ?_
  refine lv_iload hx hb dX11_mark_63 (lv_at hl 0 rfl) ?_
  refine goV (wr := [(h52, .inl (aC 0, 5, .inl (fun _ => 0))), (h53, .inl (aC 0, 40, .inl (fun _ => 0))), (h54, .inl (aC 0, 40, .inl (fun _ => 0))), (h55, .inl (aC 3, 40, .inl (fun _ => 0))), (h56, .inl (aC 0, 13, .inl (fun _ => 0))), (h58, .inl (aC 0, 52, .inl (fun _ => 0))), (h60, .inl (aC 3, 4, .inl (upd (fun _ => 0) 2 1)))]) (runV (n := 2) (As := [.int 0, .int 3]) (rest := []) F hP hD hS (k_laysLines_0_3 l g aC aM h1 h47 h48 h49 h50 h51 (.int 0) x2 x3 x4 x5 x6 x7 x8 x9 x10 x11 x12 x13 x14 x15 x16 x17 x18 x19 x20 x21 x22 x23 x24 x25 x26 x27 x28 x29 x30 x31 x32 x33 x34 x35 x36 x37 x38 x39 x40 x41 x42 x43 x44 x45 x46 (.ref h52) (.ref h53) (.ref h54) (.ref h55) (.ref h56) x57 (.ref h58) x59 (.ref h60) x61 x62 x63 x64 x65 x66 x67 x68 x69 x70 x71 x72 x73 x74) [0, 1, 2, 3, 4, 5] (by decide) rfl 0 11 rfl rfl rfl tb1608 tb1605 tb1607 tv68 tb17 ⟨by decide, by decide, by decide +kernel⟩ ⟨Nat.le_of_ble_eq_true rfl, Nat.le_of_ble_eq_true rfl⟩ rfl hl.1 rfl (Nat.le_of_ble_eq_true rfl) dX11_mark_65 ⟨Nat.le_of_ble_eq_true rfl, Nat.le_of_ble_eq_true rfl⟩) hP hD hS hA [0, 1, 2, 3, 4, 5] [6, 7, 8, 9, 10, 11, 12] rfl rfl (by decide) (by decide) (fun w10 H locs hw hP hD hS => ?_)
  have hP : va_P g vwCl [(h52, .inl (aC 0, 5, .inl (fun _ => 0))), (h53, .inl (aC 0, 40, .inl (fun _ => 0))), (h54, .inl (aC 0, 40, .inl (fun _ => 0))), (h55, .inl (aC 3, 40, .inl (fun _ => 0))), (h56, .inl (aC 0, 13, .inl (fun _ => 0))), (h58, .inl (aC 0, 52, .inl (fun _ => 0))), (h60, .inl (aC 3, 4, .inl (upd (fun _ => 0) 2 1))), (h1, .inr (11, [.int 0, x2, x3, x4, x5, x6, x7, x8, x9, x10, x11, x12, x13, x14, x15, x16, x17, x18, x19, x20, x21, x22, x23, x24, x25, x26, x27, x28, x29, x30, x31, x32, x33, x34, x35, x36, x37, x38, x39, x40, x41, x42, x43, x44, x45, x46, .ref h47, .ref h48, .ref h49, .ref h50, .ref h51, .ref h52, .ref h53, .ref h54, .ref h55, .ref h56, x57, .ref h58, x59, .ref h60, x61, x62, x63, x64, x65, x66, x67, x68, x69, x70, x71, x72, x73, x74])), (h47, .inl (aC 0, 6, .inl (fun _ => 0))), (h48, .inl (aC 0, 240, .inl (fun _ => 0))), (h49, .inl (aC 0, 240, .inl (fun _ => 0))), (h50, .inl (aC 0, 240, .inl (fun _ => 0))), (h51, .inl (aC 0, 240, .inl (fun _ => 0)))] H := hP
  have hD : va_D A [(h52, .inl (aC 0, 5, .inl (fun _ => 0))), (h53, .inl (aC 0, 40, .inl (fun _ => 0))), (h54, .inl (aC 0, 40, .inl (fun _ => 0))), (h55, .inl (aC 3, 40, .inl (fun _ => 0))), (h56, .inl (aC 0, 13, .inl (fun _ => 0))), (h58, .inl (aC 0, 52, .inl (fun _ => 0))), (h60, .inl (aC 3, 4, .inl (upd (fun _ => 0) 2 1))), (h1, .inr (11, [.int 0, x2, x3, x4, x5, x6, x7, x8, x9, x10, x11, x12, x13, x14, x15, x16, x17, x18, x19, x20, x21, x22, x23, x24, x25, x26, x27, x28, x29, x30, x31, x32, x33, x34, x35, x36, x37, x38, x39, x40, x41, x42, x43, x44, x45, x46, .ref h47, .ref h48, .ref h49, .ref h50, .ref h51, .ref h52, .ref h53, .ref h54, .ref h55, .ref h56, x57, .ref h58, x59, .ref h60, x61, x62, x63, x64, x65, x66, x67, x68, x69, x70, x71, x72, x73, x74])), (h47, .inl (aC 0, 6, .inl (fun _ => 0))), (h48, .inl (aC 0, 240, .inl (fun _ => 0))), (h49, .inl (aC 0, 240, .inl (fun _ => 0))), (h50, .inl (aC 0, 240, .inl (fun _ => 0))), (h51, .inl (aC 0, 240, .inl (fun _ => 0)))] := hD
  refine lv_aload_n hx hb dX11_mark_68 rfl (lv_at hl 2 rfl) ?_
  refine lv_iload_n hx hb dX11_mark_69 rfl (lv_at hl 1 rfl) ?_
  refine lv_iload hx hb dX11_mark_70 (lv_at hl 0 rfl) ?_
  refine goV (wr := [(h56, .inl (aC 0, 13, .inl (fun _ => 0))), (h58, .inl (aC 0, 52, .inl (fun _ => 0))), (h60, .inl (aC 3, 4, .inl (upd (fun _ => 0) 2 1))), (h47, .inl (aC 0, 6, .inl (fun _ => 0))), (h48, .inl (aC 0, 240, .inl (fun _ => 0))), (h49, .inl (aC 0, 240, .inl (fun _ => 0))), (h50, .inl (aC 0, 240, .inl (fun _ => 0))), (h51, .inl (aC 0, 240, .inl (fun _ => 0)))]) (runV (n := 2) (As := [.int 0, .int 3]) (rest := []) F hP hD hS (k_laysSeen_0_3 l g aC aM h1 h52 h53 h54 h55 (.int 0) x2 x3 x4 x5 x6 x7 x8 x9 x10 x11 x12 x13 x14 x15 x16 x17 x18 x19 x20 x21 x22 x23 x24 x25 x26 x27 x28 x29 x30 x31 x32 x33 x34 x35 x36 x37 x38 x39 x40 x41 x42 x43 x44 x45 x46 (.ref h47) (.ref h48) (.ref h49) (.ref h50) (.ref h51) (.ref h56) x57 (.ref h58) x59 (.ref h60) x61 x62 x63 x64 x65 x66 x67 x68 x69 x70 x71 x72 x73 x74) [7, 0, 1, 2, 3] (by decide) rfl 7 11 rfl rfl rfl tb1917 tb1914 tb1916 tv113 tb17 ⟨by decide, by decide, by decide +kernel⟩ ⟨Nat.le_of_ble_eq_true rfl, Nat.le_of_ble_eq_true rfl⟩ rfl hl.1 rfl (Nat.le_of_ble_eq_true rfl) dX11_mark_72 ⟨Nat.le_of_ble_eq_true rfl, Nat.le_of_ble_eq_true rfl⟩) hP hD hS hA [7, 0, 1, 2, 3] [4, 5, 6, 8, 9, 10, 11, 12] rfl rfl (by decide) (by decide) (fun w13 H locs hw hP hD hS => ?_)
  have hP : va_P g vwCl [(h56, .inl (aC 0, 13, .inl (fun _ => 0))), (h58, .inl (aC 0, 52, .inl (fun _ => 0))), (h60, .inl (aC 3, 4, .inl (upd (fun _ => 0) 2 1))), (h47, .inl (aC 0, 6, .inl (fun _ => 0))), (h48, .inl (aC 0, 240, .inl (fun _ => 0))), (h49, .inl (aC 0, 240, .inl (fun _ => 0))), (h50, .inl (aC 0, 240, .inl (fun _ => 0))), (h51, .inl (aC 0, 240, .inl (fun _ => 0))), (h1, .inr (11, [.int 0, x2, x3, x4, x5, x6, x7, x8, x9, x10, x11, x12, x13, x14, x15, x16, x17, x18, x19, x20, x21, x22, x23, x24, x25, x26, x27, x28, x29, x30, x31, x32, x33, x34, x35, x36, x37, x38, x39, x40, x41, x42, x43, x44, x45, x46, .ref h47, .ref h48, .ref h49, .ref h50, .ref h51, .ref h52, .ref h53, .ref h54, .ref h55, .ref h56, x57, .ref h58, x59, .ref h60, x61, x62, x63, x64, x65, x66, x67, x68, x69, x70, x71, x72, x73, x74])), (h52, .inl (aC 0, 5, .inl (fun _ => 0))), (h53, .inl (aC 0, 40, .inl (fun _ => 0))), (h54, .inl (aC 0, 40, .inl (fun _ => 0))), (h55, .inl (aC 3, 40, .inl (fun _ => 0)))] H := hP
  have hD : va_D A [(h56, .inl (aC 0, 13, .inl (fun _ => 0))), (h58, .inl (aC 0, 52, .inl (fun _ => 0))), (h60, .inl (aC 3, 4, .inl (upd (fun _ => 0) 2 1))), (h47, .inl (aC 0, 6, .inl (fun _ => 0))), (h48, .inl (aC 0, 240, .inl (fun _ => 0))), (h49, .inl (aC 0, 240, .inl (fun _ => 0))), (h50, .inl (aC 0, 240, .inl (fun _ => 0))), (h51, .inl (aC 0, 240, .inl (fun _ => 0))), (h1, .inr (11, [.int 0, x2, x3, x4, x5, x6, x7, x8, x9, x10, x11, x12, x13, x14, x15, x16, x17, x18, x19, x20, x21, x22, x23, x24, x25, x26, x27, x28, x29, x30, x31, x32, x33, x34, x35, x36, x37, x38, x39, x40, x41, x42, x43, x44, x45, x46, .ref h47, .ref h48, .ref h49, .ref h50, .ref h51, .ref h52, .ref h53, .ref h54, .ref h55, .ref h56, x57, .ref h58, x59, .ref h60, x61, x62, x63, x64, x65, x66, x67, x68, x69, x70, x71, x72, x73, x74])), (h52, .inl (aC 0, 5, .inl (fun _ => 0))), (h53, .inl (aC 0, 40, .inl (fun _ => 0))), (h54, .inl (aC 0, 40, .inl (fun _ => 0))), (h55, .inl (aC 3, 40, .inl (fun _ => 0)))] := hD
  refine lv_iload_n hx hb dX11_mark_75 rfl (lv_at hl 4 rfl) ?_
  refine lv_if_eq (tgt := 103) hx hb dX11_mark_76 (by decide) (fun _ => ?_) (fun c_ => absurd (by decide +kernel) c_)
  refine lv_aload_n hx hb dX11_mark_103 rfl (lv_at hl 2 rfl) ?_
  refine xget F hP 8 rfl rfl inX11 55 (by decide) tb1237 rfl dX11_mark_104 ?_
  refine lv_iconst (v := 0) hx hb dX11_mark_107 (by decide) ?_
  refine lv_aload_n hx hb dX11_mark_108 rfl (lv_at hl 2 rfl) ?_
  refine xget F hP 8 rfl rfl inX11 57 (by decide) tb1239 rfl dX11_mark_109 ?_
  refine lv_bipush (v := 13) hx hb dX11_mark_112 (by decide) ?_
  refine lv_iload_n hx hb dX11_mark_114 rfl (lv_at hl 3 rfl) ?_
  refine lv_imul hx hb dX11_mark_115 ?_
  refine relit (v := 26) (by decide +kernel) ?_
  refine goV (wr := [(h60, .inl (aC 3, 4, .inl (upd (fun _ => 0) 2 1))), (h47, .inl (aC 0, 6, .inl (fun _ => 0))), (h48, .inl (aC 0, 240, .inl (fun _ => 0))), (h49, .inl (aC 0, 240, .inl (fun _ => 0))), (h50, .inl (aC 0, 240, .inl (fun _ => 0))), (h51, .inl (aC 0, 240, .inl (fun _ => 0))), (h1, .inr (11, [.int 0, x2, x3, x4, x5, x6, x7, x8, x9, x10, x11, x12, x13, x14, x15, x16, x17, x18, x19, x20, x21, x22, x23, x24, x25, x26, x27, x28, x29, x30, x31, x32, x33, x34, x35, x36, x37, x38, x39, x40, x41, x42, x43, x44, x45, x46, .ref h47, .ref h48, .ref h49, .ref h50, .ref h51, .ref h52, .ref h53, .ref h54, .ref h55, .ref h56, x57, .ref h58, x59, .ref h60, x61, x62, x63, x64, x65, x66, x67, x68, x69, x70, x71, x72, x73, x74])), (h52, .inl (aC 0, 5, .inl (fun _ => 0))), (h53, .inl (aC 0, 40, .inl (fun _ => 0))), (h54, .inl (aC 0, 40, .inl (fun _ => 0))), (h55, .inl (aC 3, 40, .inl (fun _ => 0)))]) (runS (n := 4) (As := [.ref h56, .int 0, .ref h58, .int 26]) (rest := []) F hP hD hS (a_X11_copies_6 l g aC aM h56 h58) [0, 1] (by decide) rfl tb1700 tb1698 tb1699 tb17 ⟨by decide, by decide, by decide +kernel⟩ ⟨Nat.le_of_ble_eq_true rfl, Nat.le_of_ble_eq_true rfl⟩ rfl hl.1 rfl (Nat.le_of_ble_eq_true rfl) dX11_mark_116 ⟨Nat.le_of_ble_eq_true rfl, Nat.le_of_ble_eq_true rfl⟩) hP hD hS hA [0, 1] [2, 3, 4, 5, 6, 7, 8, 9, 10, 11, 12] rfl rfl (by decide) (by decide) (fun w17 H locs hw hP hD hS => ?_)
  have hP : va_P g vwCl [(h60, .inl (aC 3, 4, .inl (upd (fun _ => 0) 2 1))), (h47, .inl (aC 0, 6, .inl (fun _ => 0))), (h48, .inl (aC 0, 240, .inl (fun _ => 0))), (h49, .inl (aC 0, 240, .inl (fun _ => 0))), (h50, .inl (aC 0, 240, .inl (fun _ => 0))), (h51, .inl (aC 0, 240, .inl (fun _ => 0))), (h1, .inr (11, [.int 0, x2, x3, x4, x5, x6, x7, x8, x9, x10, x11, x12, x13, x14, x15, x16, x17, x18, x19, x20, x21, x22, x23, x24, x25, x26, x27, x28, x29, x30, x31, x32, x33, x34, x35, x36, x37, x38, x39, x40, x41, x42, x43, x44, x45, x46, .ref h47, .ref h48, .ref h49, .ref h50, .ref h51, .ref h52, .ref h53, .ref h54, .ref h55, .ref h56, x57, .ref h58, x59, .ref h60, x61, x62, x63, x64, x65, x66, x67, x68, x69, x70, x71, x72, x73, x74])), (h52, .inl (aC 0, 5, .inl (fun _ => 0))), (h53, .inl (aC 0, 40, .inl (fun _ => 0))), (h54, .inl (aC 0, 40, .inl (fun _ => 0))), (h55, .inl (aC 3, 40, .inl (fun _ => 0))), (h56, .inl (aC 0, 13, .inl (fun _ => 0))), (h58, .inl (aC 0, 52, .inl (fun _ => 0)))] H := hP
  have hD : va_D A [(h60, .inl (aC 3, 4, .inl (upd (fun _ => 0) 2 1))), (h47, .inl (aC 0, 6, .inl (fun _ => 0))), (h48, .inl (aC 0, 240, .inl (fun _ => 0))), (h49, .inl (aC 0, 240, .inl (fun _ => 0))), (h50, .inl (aC 0, 240, .inl (fun _ => 0))), (h51, .inl (aC 0, 240, .inl (fun _ => 0))), (h1, .inr (11, [.int 0, x2, x3, x4, x5, x6, x7, x8, x9, x10, x11, x12, x13, x14, x15, x16, x17, x18, x19, x20, x21, x22, x23, x24, x25, x26, x27, x28, x29, x30, x31, x32, x33, x34, x35, x36, x37, x38, x39, x40, x41, x42, x43, x44, x45, x46, .ref h47, .ref h48, .ref h49, .ref h50, .ref h51, .ref h52, .ref h53, .ref h54, .ref h55, .ref h56, x57, .ref h58, x59, .ref h60, x61, x62, x63, x64, x65, x66, x67, x68, x69, x70, x71, x72, x73, x74])), (h52, .inl (aC 0, 5, .inl (fun _ => 0))), (h53, .inl (aC 0, 40, .inl (fun _ => 0))), (h54, .inl (aC 0, 40, .inl (fun _ => 0))), (h55, .inl (aC 3, 40, .inl (fun _ => 0))), (h56, .inl (aC 0, 13, .inl (fun _ => 0))), (h58, .inl (aC 0, 52, .inl (fun _ => 0)))] := hD
  refine lv_iconst (v := 1) hx hb dX11_mark_119 (by decide) ?_
  have hP9 := hP.sub (ws' := []) [] rfl
  have hD9 := hD.sub (ws' := []) [] (by decide) rfl
  exact rI () hx hb hr hlk rfl hS rfl hP9 hD9 (Nat.le_of_ble_eq_true rfl) (Nat.le_of_ble_eq_true rfl) dX11_mark_120

set_option maxHeartbeats 4000000 in
set_option maxRecDepth 100000 in
theorem m_mark_30 (l : Launch) (g : va_G) (aC : Nat → ClassId) (aM : Nat → Nat) (h1 h47 h48 h49 h50 h51 h52 h53 h54 h55 h56 h58 h60 : Nat) (x2 x3 x4 x5 x6 x7 x8 x9 x10 x11 x12 x13 x14 x15 x16 x17 x18 x19 x20 x21 x22 x23 x24 x25 x26 x27 x28 x29 x30 x31 x32 x33 x34 x35 x36 x37 x38 x39 x40 x41 x42 x43 x44 x45 x46 x57 x59 x61 x62 x63 x64 x65 x66 x67 x68 x69 x70 x71 x72 x73 x74 : Value) : Ct l g aC aM yX11_mark cX11_mark 5 (some .boolean) 2 [.ref h1, .int 3, .int 0] [(h1, .inr (11, [.int 0, x2, x3, x4, x5, x6, x7, x8, x9, x10, x11, x12, x13, x14, x15, x16, x17, x18, x19, x20, x21, x22, x23, x24, x25, x26, x27, x28, x29, x30, x31, x32, x33, x34, x35, x36, x37, x38, x39, x40, x41, x42, x43, x44, x45, x46, .ref h47, .ref h48, .ref h49, .ref h50, .ref h51, .ref h52, .ref h53, .ref h54, .ref h55, .ref h56, x57, .ref h58, x59, .ref h60, x61, x62, x63, x64, x65, x66, x67, x68, x69, x70, x71, x72, x73, x74])), (h47, .inl (aC 0, 6, .inl (fun _ => 0))), (h48, .inl (aC 0, 240, .inl (fun _ => 0))), (h49, .inl (aC 0, 240, .inl (fun _ => 0))), (h50, .inl (aC 0, 240, .inl (fun _ => 0))), (h51, .inl (aC 0, 240, .inl (fun _ => 0))), (h52, .inl (aC 0, 5, .inl (fun _ => 0))), (h53, .inl (aC 0, 40, .inl (fun _ => 0))), (h54, .inl (aC 0, 40, .inl (fun _ => 0))), (h55, .inl (aC 3, 40, .inl (fun _ => 0))), (h56, .inl (aC 0, 13, .inl (fun _ => 0))), (h58, .inl (aC 0, 52, .inl (fun _ => 0))), (h60, .inl (aC 3, 4, .inl (fun _ => 0)))] (QI g (fun (r : Int32) (_ : Unit) => r = 1) (fun (_ : Unit) => [])) 0 0 := by
  refine Ct.mk (by decide) (Nat.le_of_ble_eq_true rfl) ?_
  intro p e s m below meth c A ls hx hb hml hown hts hr hlk hnm hK hA hM hM2 hP hD hS hl
  have hown : s.vm.findClass RX11 = some m.cls := hown
  have F : Fx p s m _ c cX11_mark 5 RX11 g aC aM A := ⟨hx, hb, hml, hown, hts, hK, hA, hM, hM2⟩
  have hl : lv_has ls 5 [(0, .ref h1), (1, .int 3), (2, .int 0)] := hl
  refine lv_aload_n hx hb dX11_mark_0 rfl (lv_at hl 0 rfl) ?_
  refine lv_iconst (v := 0) hx hb dX11_mark_1 (by decide) ?_
  refine xput F hP hD hS 0 rfl rfl inX11 tyX11_ok nmX11 0 (by decide) tb1182 rfl rfl rfl (Nat.le_of_ble_eq_true rfl) dX11_mark_2 (fun H locs hP hD hS => ?_)
  have hP : va_P g vwCl [(h1, .inr (11, [.int 0, x2, x3, x4, x5, x6, x7, x8, x9, x10, x11, x12, x13, x14, x15, x16, x17, x18, x19, x20, x21, x22, x23, x24, x25, x26, x27, x28, x29, x30, x31, x32, x33, x34, x35, x36, x37, x38, x39, x40, x41, x42, x43, x44, x45, x46, .ref h47, .ref h48, .ref h49, .ref h50, .ref h51, .ref h52, .ref h53, .ref h54, .ref h55, .ref h56, x57, .ref h58, x59, .ref h60, x61, x62, x63, x64, x65, x66, x67, x68, x69, x70, x71, x72, x73, x74])), (h47, .inl (aC 0, 6, .inl (fun _ => 0))), (h48, .inl (aC 0, 240, .inl (fun _ => 0))), (h49, .inl (aC 0, 240, .inl (fun _ => 0))), (h50, .inl (aC 0, 240, .inl (fun _ => 0))), (h51, .inl (aC 0, 240, .inl (fun _ => 0))), (h52, .inl (aC 0, 5, .inl (fun _ => 0))), (h53, .inl (aC 0, 40, .inl (fun _ => 0))), (h54, .inl (aC 0, 40, .inl (fun _ => 0))), (h55, .inl (aC 3, 40, .inl (fun _ => 0))), (h56, .inl (aC 0, 13, .inl (fun _ => 0))), (h58, .inl (aC 0, 52, .inl (fun _ => 0))), (h60, .inl (aC 3, 4, .inl (fun _ => 0)))] H := hP
  have hD : va_D A [(h1, .inr (11, [.int 0, x2, x3, x4, x5, x6, x7, x8, x9, x10, x11, x12, x13, x14, x15, x16, x17, x18, x19, x20, x21, x22, x23, x24, x25, x26, x27, x28, x29, x30, x31, x32, x33, x34, x35, x36, x37, x38, x39, x40, x41, x42, x43, x44, x45, x46, .ref h47, .ref h48, .ref h49, .ref h50, .ref h51, .ref h52, .ref h53, .ref h54, .ref h55, .ref h56, x57, .ref h58, x59, .ref h60, x61, x62, x63, x64, x65, x66, x67, x68, x69, x70, x71, x72, x73, x74])), (h47, .inl (aC 0, 6, .inl (fun _ => 0))), (h48, .inl (aC 0, 240, .inl (fun _ => 0))), (h49, .inl (aC 0, 240, .inl (fun _ => 0))), (h50, .inl (aC 0, 240, .inl (fun _ => 0))), (h51, .inl (aC 0, 240, .inl (fun _ => 0))), (h52, .inl (aC 0, 5, .inl (fun _ => 0))), (h53, .inl (aC 0, 40, .inl (fun _ => 0))), (h54, .inl (aC 0, 40, .inl (fun _ => 0))), (h55, .inl (aC 3, 40, .inl (fun _ => 0))), (h56, .inl (aC 0, 13, .inl (fun _ => 0))), (h58, .inl (aC 0, 52, .inl (fun _ => 0))), (h60, .inl (aC 3, 4, .inl (fun _ => 0)))] := hD
  refine lv_iload_n hx hb dX11_mark_5 rfl (lv_at hl 1 rfl) ?_
  refine lv_iconst (v := 0) hx hb dX11_mark_6 (by decide) ?_
  refine lv_iconst (v := 3) hx hb dX11_mark_7 (by decide) ?_
  refine goI (wr := [(h1, .inr (11, [.int 0, x2, x3, x4, x5, x6, x7, x8, x9, x10, x11, x12, x13, x14, x15, x16, x17, x18, x19, x20, x21, x22, x23, x24, x25, x26, x27, x28, x29, x30, x31, x32, x33, x34, x35, x36, x37, x38, x39, x40, x41, x42, x43, x44, x45, x46, .ref h47, .ref h48, .ref h49, .ref h50, .ref h51, .ref h52, .ref h53, .ref h54, .ref h55, .ref h56, x57, .ref h58, x59, .ref h60, x61, x62, x63, x64, x65, x66, x67, x68, x69, x70, x71, x72, x73, x74])), (h47, .inl (aC 0, 6, .inl (fun _ => 0))), (h48, .inl (aC 0, 240, .inl (fun _ => 0))), (h49, .inl (aC 0, 240, .inl (fun _ => 0))), (h50, .inl (aC 0, 240, .inl (fun _ => 0))), (h51, .inl (aC 0, 240, .inl (fun _ => 0))), (h52, .inl (aC 0, 5, .inl (fun _ => 0))), (h53, .inl (aC 0, 40, .inl (fun _ => 0))), (h54, .inl (aC 0, 40, .inl (fun _ => 0))), (h55, .inl (aC 3, 40, .inl (fun _ => 0))), (h56, .inl (aC 0, 13, .inl (fun _ => 0))), (h58, .inl (aC 0, 52, .inl (fun _ => 0))), (h60, .inl (aC 3, 4, .inl (fun _ => 0)))]) (runS (n := 3) (As := [.int 3, .int 0, .int 3]) (rest := []) F hP hD hS (a_X11_within_25 l g aC aM ) [] (by decide) rfl tb1511 tb1509 tb1510 tb17 ⟨by decide, by decide, by decide +kernel⟩ ⟨Nat.le_of_ble_eq_true rfl, Nat.le_of_ble_eq_true rfl⟩ rfl hl.1 rfl (Nat.le_of_ble_eq_true rfl) dX11_mark_8 ⟨Nat.le_of_ble_eq_true rfl, Nat.le_of_ble_eq_true rfl⟩) hP hD hS hA [] [0, 1, 2, 3, 4, 5, 6, 7, 8, 9, 10, 11, 12] rfl rfl (by decide) (by decide) (fun r_2 w3 H locs hw hP hD hS => ?_)
  have hP : va_P g vwCl [(h1, .inr (11, [.int 0, x2, x3, x4, x5, x6, x7, x8, x9, x10, x11, x12, x13, x14, x15, x16, x17, x18, x19, x20, x21, x22, x23, x24, x25, x26, x27, x28, x29, x30, x31, x32, x33, x34, x35, x36, x37, x38, x39, x40, x41, x42, x43, x44, x45, x46, .ref h47, .ref h48, .ref h49, .ref h50, .ref h51, .ref h52, .ref h53, .ref h54, .ref h55, .ref h56, x57, .ref h58, x59, .ref h60, x61, x62, x63, x64, x65, x66, x67, x68, x69, x70, x71, x72, x73, x74])), (h47, .inl (aC 0, 6, .inl (fun _ => 0))), (h48, .inl (aC 0, 240, .inl (fun _ => 0))), (h49, .inl (aC 0, 240, .inl (fun _ => 0))), (h50, .inl (aC 0, 240, .inl (fun _ => 0))), (h51, .inl (aC 0, 240, .inl (fun _ => 0))), (h52, .inl (aC 0, 5, .inl (fun _ => 0))), (h53, .inl (aC 0, 40, .inl (fun _ => 0))), (h54, .inl (aC 0, 40, .inl (fun _ => 0))), (h55, .inl (aC 3, 40, .inl (fun _ => 0))), (h56, .inl (aC 0, 13, .inl (fun _ => 0))), (h58, .inl (aC 0, 52, .inl (fun _ => 0))), (h60, .inl (aC 3, 4, .inl (fun _ => 0)))] H := hP
  have hD : va_D A [(h1, .inr (11, [.int 0, x2, x3, x4, x5, x6, x7, x8, x9, x10, x11, x12, x13, x14, x15, x16, x17, x18, x19, x20, x21, x22, x23, x24, x25, x26, x27, x28, x29, x30, x31, x32, x33, x34, x35, x36, x37, x38, x39, x40, x41, x42, x43, x44, x45, x46, .ref h47, .ref h48, .ref h49, .ref h50, .ref h51, .ref h52, .ref h53, .ref h54, .ref h55, .ref h56, x57, .ref h58, x59, .ref h60, x61, x62, x63, x64, x65, x66, x67, x68, x69, x70, x71, x72, x73, x74])), (h47, .inl (aC 0, 6, .inl (fun _ => 0))), (h48, .inl (aC 0, 240, .inl (fun _ => 0))), (h49, .inl (aC 0, 240, .inl (fun _ => 0))), (h50, .inl (aC 0, 240, .inl (fun _ => 0))), (h51, .inl (aC 0, 240, .inl (fun _ => 0))), (h52, .inl (aC 0, 5, .inl (fun _ => 0))), (h53, .inl (aC 0, 40, .inl (fun _ => 0))), (h54, .inl (aC 0, 40, .inl (fun _ => 0))), (h55, .inl (aC 3, 40, .inl (fun _ => 0))), (h56, .inl (aC 0, 13, .inl (fun _ => 0))), (h58, .inl (aC 0, 52, .inl (fun _ => 0))), (h60, .inl (aC 3, 4, .inl (fun _ => 0)))] := hD
  try dsimp only at hw
  subst hw
  refine lv_if_eq (tgt := 27) hx hb dX11_mark_11 (by decide) (fun c_ => absurd c_ (by decide +kernel)) (fun _ => ?_)
  refine lv_iload_n hx hb dX11_mark_14 rfl (lv_at hl 2 rfl) ?_
  refine lv_if_eq (tgt := 29) hx hb dX11_mark_15 (by decide) (fun _ => ?_) (fun c_ => absurd (by decide +kernel) c_)
  refine lv_aload_n hx hb dX11_mark_29 rfl (lv_at hl 0 rfl) ?_
  refine xget F hP 0 rfl rfl inX11 59 (by decide) tb1241 rfl dX11_mark_30 ?_
  refine lv_iload_n hx hb dX11_mark_33 rfl (lv_at hl 1 rfl) ?_
  refine lv_iconst (v := 1) hx hb dX11_mark_34 (by decide) ?_
  refine xzst (f' := upd (fun _ => 0) 3 1) F hP hD hS 12 rfl 3 (by decide +kernel) (by decide +kernel) (by decide) (xup _ _ (by decide +kernel)) dX11_mark_35 (fun H locs hP hD hS => ?_)
  have hP : va_P g vwCl [(h1, .inr (11, [.int 0, x2, x3, x4, x5, x6, x7, x8, x9, x10, x11, x12, x13, x14, x15, x16, x17, x18, x19, x20, x21, x22, x23, x24, x25, x26, x27, x28, x29, x30, x31, x32, x33, x34, x35, x36, x37, x38, x39, x40, x41, x42, x43, x44, x45, x46, .ref h47, .ref h48, .ref h49, .ref h50, .ref h51, .ref h52, .ref h53, .ref h54, .ref h55, .ref h56, x57, .ref h58, x59, .ref h60, x61, x62, x63, x64, x65, x66, x67, x68, x69, x70, x71, x72, x73, x74])), (h47, .inl (aC 0, 6, .inl (fun _ => 0))), (h48, .inl (aC 0, 240, .inl (fun _ => 0))), (h49, .inl (aC 0, 240, .inl (fun _ => 0))), (h50, .inl (aC 0, 240, .inl (fun _ => 0))), (h51, .inl (aC 0, 240, .inl (fun _ => 0))), (h52, .inl (aC 0, 5, .inl (fun _ => 0))), (h53, .inl (aC 0, 40, .inl (fun _ => 0))), (h54, .inl (aC 0, 40, .inl (fun _ => 0))), (h55, .inl (aC 3, 40, .inl (fun _ => 0))), (h56, .inl (aC 0, 13, .inl (fun _ => 0))), (h58, .inl (aC 0, 52, .inl (fun _ => 0))), (h60, .inl (aC 3, 4, .inl (upd (fun _ => 0) 3 1)))] H := hP
  have hD : va_D A [(h1, .inr (11, [.int 0, x2, x3, x4, x5, x6, x7, x8, x9, x10, x11, x12, x13, x14, x15, x16, x17, x18, x19, x20, x21, x22, x23, x24, x25, x26, x27, x28, x29, x30, x31, x32, x33, x34, x35, x36, x37, x38, x39, x40, x41, x42, x43, x44, x45, x46, .ref h47, .ref h48, .ref h49, .ref h50, .ref h51, .ref h52, .ref h53, .ref h54, .ref h55, .ref h56, x57, .ref h58, x59, .ref h60, x61, x62, x63, x64, x65, x66, x67, x68, x69, x70, x71, x72, x73, x74])), (h47, .inl (aC 0, 6, .inl (fun _ => 0))), (h48, .inl (aC 0, 240, .inl (fun _ => 0))), (h49, .inl (aC 0, 240, .inl (fun _ => 0))), (h50, .inl (aC 0, 240, .inl (fun _ => 0))), (h51, .inl (aC 0, 240, .inl (fun _ => 0))), (h52, .inl (aC 0, 5, .inl (fun _ => 0))), (h53, .inl (aC 0, 40, .inl (fun _ => 0))), (h54, .inl (aC 0, 40, .inl (fun _ => 0))), (h55, .inl (aC 3, 40, .inl (fun _ => 0))), (h56, .inl (aC 0, 13, .inl (fun _ => 0))), (h58, .inl (aC 0, 52, .inl (fun _ => 0))), (h60, .inl (aC 3, 4, .inl (upd (fun _ => 0) 3 1)))] := hD
  refine lv_iload_n hx hb dX11_mark_36 rfl (lv_at hl 2 rfl) ?_
  refine lv_if_eq (tgt := 46) hx hb dX11_mark_37 (by decide) (fun _ => ?_) (fun c_ => absurd (by decide +kernel) c_)
  refine lv_iconst (v := 0) hx hb dX11_mark_46 (by decide) ?_
  refine lv_istore_n (lv' := [(3, .int 0), (0, .ref h1), (1, .int 3), (2, .int 0)]) hx hb dX11_mark_47 rfl hl (by decide) rfl (fun ls hl => ?_)
  refine lv_iload_n hx hb dX11_mark_48 rfl (lv_at hl 3 rfl) ?_
  refine lv_if_eq (tgt := 56) hx hb dX11_mark_49 (by decide) (fun _ => ?_) (fun c_ => absurd (by decide +kernel) c_)
  refine lv_iconst (v := 1) hx hb dX11_mark_56 (by decide) ?_
  refine lv_iload_n hx hb dX11_mark_57 rfl (lv_at hl 2 rfl) ?_
  refine lv_iadd hx hb dX11_mark_58 ?_
  refine relit (v := 4) (by decide +kernel) ?_
  refine lv_istore (lv' := [(4, .int 4), (3, .int 0), (0, .ref h1), (1, .int 3), (2, .int 0)]) hx hb dX11_mark_59 hl (by decide) rfl (fun ls hl => ?_)
  refine lv_aload_n hx hb dX11_mark_61 rfl (lv_at hl 2 rfl) ?_
  refine lv_iload_n hx hb dX11_mark_62 rfl (lv_at hl 1 rfl) ?_
  refine lv_iload hx hb dX11_mark_63 (lv_at hl 0 rfl) ?_
  refine goV (wr := [(h52, .inl (aC 0, 5, .inl (fun _ => 0))), (h53, .inl (aC 0, 40, .inl (fun _ => 0))), (h54, .inl (aC 0, 40, .inl (fun _ => 0))), (h55, .inl (aC 3, 40, .inl (fun _ => 0))), (h56, .inl (aC 0, 13, .inl (fun _ => 0))), (h58, .inl (aC 0, 52, .inl (fun _ => 0))), (h60, .inl (aC 3, 4, .inl (upd (fun _ => 0) 3 1)))]) (runV (n := 2) (As := [.int 0, .int 4]) (rest := []) F hP hD hS (k_laysLines_0_4 l g aC aM h1 h47 h48 h49 h50 h51 (.int 0) x2 x3 x4 x5 x6 x7 x8 x9 x10 x11 x12 x13 x14 x15 x16 x17 x18 x19 x20 x21 x22 x23 x24 x25 x26 x27 x28 x29 x30 x31 x32 x33 x34 x35 x36 x37 x38 x39 x40 x41 x42 x43 x44 x45 x46 (.ref h52) (.ref h53) (.ref h54) (.ref h55) (.ref h56) x57 (.ref h58) x59 (.ref h60) x61 x62 x63 x64 x65 x66 x67 x68 x69 x70 x71 x72 x73 x74) [0, 1, 2, 3, 4, 5] (by decide) rfl 0 11 rfl rfl rfl tb1608 tb1605 tb1607 tv68 tb17 ⟨by decide, by decide, by decide +kernel⟩ ⟨Nat.le_of_ble_eq_true rfl, Nat.le_of_ble_eq_true rfl⟩ rfl hl.1 rfl (Nat.le_of_ble_eq_true rfl) dX11_mark_65 ⟨Nat.le_of_ble_eq_true rfl, Nat.le_of_ble_eq_true rfl⟩) hP hD hS hA [0, 1, 2, 3, 4, 5] [6, 7, 8, 9, 10, 11, 12] rfl rfl (by decide) (by decide) (fun w10 H locs hw hP hD hS => ?_)
  have hP : va_P g vwCl [(h52, .inl (aC 0, 5, .inl (fun _ => 0))), (h53, .inl (aC 0, 40, .inl (fun _ => 0))), (h54, .inl (aC 0, 40, .inl (fun _ => 0))), (h55, .inl (aC 3, 40, .inl (fun _ => 0))), (h56, .inl (aC 0, 13, .inl (fun _ => 0))), (h58, .inl (aC 0, 52, .inl (fun _ => 0))), (h60, .inl (aC 3, 4, .inl (upd (fun _ => 0) 3 1))), (h1, .inr (11, [.int 0, x2, x3, x4, x5, x6, x7, x8, x9, x10, x11, x12, x13, x14, x15, x16, x17, x18, x19, x20, x21, x22, x23, x24, x25, x26, x27, x28, x29, x30, x31, x32, x33, x34, x35, x36, x37, x38, x39, x40, x41, x42, x43, x44, x45, x46, .ref h47, .ref h48, .ref h49, .ref h50, .ref h51, .ref h52, .ref h53, .ref h54, .ref h55, .ref h56, x57, .ref h58, x59, .ref h60, x61, x62, x63, x64, x65, x66, x67, x68, x69, x70, x71, x72, x73, x74])), (h47, .inl (aC 0, 6, .inl (fun _ => 0))), (h48, .inl (aC 0, 240, .inl (fun _ => 0))), (h49, .inl (aC 0, 240, .inl (fun _ => 0))), (h50, .inl (aC 0, 240, .inl (fun _ => 0))), (h51, .inl (aC 0, 240, .inl (fun _ => 0)))] H := hP
  have hD : va_D A [(h52, .inl (aC 0, 5, .inl (fun _ => 0))), (h53, .inl (aC 0, 40, .inl (fun _ => 0))), (h54, .inl (aC 0, 40, .inl (fun _ => 0))), (h55, .inl (aC 3, 40, .inl (fun _ => 0))), (h56, .inl (aC 0, 13, .inl (fun _ => 0))), (h58, .inl (aC 0, 52, .inl (fun _ => 0))), (h60, .inl (aC 3, 4, .inl (upd (fun _ => 0) 3 1))), (h1, .inr (11, [.int 0, x2, x3, x4, x5, x6, x7, x8, x9, x10, x11, x12, x13, x14, x15, x16, x17, x18, x19, x20, x21, x22, x23, x24, x25, x26, x27, x28, x29, x30, x31, x32, x33, x34, x35, x36, x37, x38, x39, x40, x41, x42, x43, x44, x45, x46, .ref h47, .ref h48, .ref h49, .ref h50, .ref h51, .ref h52, .ref h53, .ref h54, .ref h55, .ref h56, x57, .ref h58, x59, .ref h60, x61, x62, x63, x64, x65, x66, x67, x68, x69, x70, x71, x72, x73, x74])), (h47, .inl (aC 0, 6, .inl (fun _ => 0))), (h48, .inl (aC 0, 240, .inl (fun _ => 0))), (h49, .inl (aC 0, 240, .inl (fun _ => 0))), (h50, .inl (aC 0, 240, .inl (fun _ => 0))), (h51, .inl (aC 0, 240, .inl (fun _ => 0)))] := hD
  refine lv_aload_n hx hb dX11_mark_68 rfl (lv_at hl 2 rfl) ?_
  refine lv_iload_n hx hb dX11_mark_69 rfl (lv_at hl 1 rfl) ?_
  refine lv_iload hx hb dX11_mark_70 (lv_at hl 0 rfl) ?_
  refine goV (wr := [(h56, .inl (aC 0, 13, .inl (fun _ => 0))), (h58, .inl (aC 0, 52, .inl (fun _ => 0))), (h60, .inl (aC 3, 4, .inl (upd (fun _ => 0) 3 1))), (h47, .inl (aC 0, 6, .inl (fun _ => 0))), (h48, .inl (aC 0, 240, .inl (fun _ => 0))), (h49, .inl (aC 0, 240, .inl (fun _ => 0))), (h50, .inl (aC 0, 240, .inl (fun _ => 0))), (h51, .inl (aC 0, 240, .inl (fun _ => 0)))]) (runV (n := 2) (As := [.int 0, .int 4]) (rest := []) F hP hD hS (k_laysSeen_0_4 l g aC aM h1 h52 h53 h54 h55 (.int 0) x2 x3 x4 x5 x6 x7 x8 x9 x10 x11 x12 x13 x14 x15 x16 x17 x18 x19 x20 x21 x22 x23 x24 x25 x26 x27 x28 x29 x30 x31 x32 x33 x34 x35 x36 x37 x38 x39 x40 x41 x42 x43 x44 x45 x46 (.ref h47) (.ref h48) (.ref h49) (.ref h50) (.ref h51) (.ref h56) x57 (.ref h58) x59 (.ref h60) x61 x62 x63 x64 x65 x66 x67 x68 x69 x70 x71 x72 x73 x74) [7, 0, 1, 2, 3] (by decide) rfl 7 11 rfl rfl rfl tb1917 tb1914 tb1916 tv113 tb17 ⟨by decide, by decide, by decide +kernel⟩ ⟨Nat.le_of_ble_eq_true rfl, Nat.le_of_ble_eq_true rfl⟩ rfl hl.1 rfl (Nat.le_of_ble_eq_true rfl) dX11_mark_72 ⟨Nat.le_of_ble_eq_true rfl, Nat.le_of_ble_eq_true rfl⟩) hP hD hS hA [7, 0, 1, 2, 3] [4, 5, 6, 8, 9, 10, 11, 12] rfl rfl (by decide) (by decide) (fun w13 H locs hw hP hD hS => ?_)
  have hP : va_P g vwCl [(h56, .inl (aC 0, 13, .inl (fun _ => 0))), (h58, .inl (aC 0, 52, .inl (fun _ => 0))), (h60, .inl (aC 3, 4, .inl (upd (fun _ => 0) 3 1))), (h47, .inl (aC 0, 6, .inl (fun _ => 0))), (h48, .inl (aC 0, 240, .inl (fun _ => 0))), (h49, .inl (aC 0, 240, .inl (fun _ => 0))), (h50, .inl (aC 0, 240, .inl (fun _ => 0))), (h51, .inl (aC 0, 240, .inl (fun _ => 0))), (h1, .inr (11, [.int 0, x2, x3, x4, x5, x6, x7, x8, x9, x10, x11, x12, x13, x14, x15, x16, x17, x18, x19, x20, x21, x22, x23, x24, x25, x26, x27, x28, x29, x30, x31, x32, x33, x34, x35, x36, x37, x38, x39, x40, x41, x42, x43, x44, x45, x46, .ref h47, .ref h48, .ref h49, .ref h50, .ref h51, .ref h52, .ref h53, .ref h54, .ref h55, .ref h56, x57, .ref h58, x59, .ref h60, x61, x62, x63, x64, x65, x66, x67, x68, x69, x70, x71, x72, x73, x74])), (h52, .inl (aC 0, 5, .inl (fun _ => 0))), (h53, .inl (aC 0, 40, .inl (fun _ => 0))), (h54, .inl (aC 0, 40, .inl (fun _ => 0))), (h55, .inl (aC 3, 40, .inl (fun _ => 0)))] H := hP
  have hD : va_D A [(h56, .inl (aC 0, 13, .inl (fun _ => 0))), (h58, .inl (aC 0, 52, .inl (fun _ => 0))), (h60, .inl (aC 3, 4, .inl (upd (fun _ => 0) 3 1))), (h47, .inl (aC 0, 6, .inl (fun _ => 0))), (h48, .inl (aC 0, 240, .inl (fun _ => 0))), (h49, .inl (aC 0, 240, .inl (fun _ => 0))), (h50, .inl (aC 0, 240, .inl (fun _ => 0))), (h51, .inl (aC 0, 240, .inl (fun _ => 0))), (h1, .inr (11, [.int 0, x2, x3, x4, x5, x6, x7, x8, x9, x10, x11, x12, x13, x14, x15, x16, x17, x18, x19, x20, x21, x22, x23, x24, x25, x26, x27, x28, x29, x30, x31, x32, x33, x34, x35, x36, x37, x38, x39, x40, x41, x42, x43, x44, x45, x46, .ref h47, .ref h48, .ref h49, .ref h50, .ref h51, .ref h52, .ref h53, .ref h54, .ref h55, .ref h56, x57, .ref h58, x59, .ref h60, x61, x62, x63, x64, x65, x66, x67, x68, x69, x70, x71, x72, x73, x74])), (h52, .inl (aC 0, 5, .inl (fun _ => 0))), (h53, .inl (aC 0, 40, .inl (fun _ => 0))), (h54, .inl (aC 0, 40, .inl (fun _ => 0))), (h55, .inl (aC 3, 40, .inl (fun _ => 0)))] := hD
  refine lv_iload_n hx hb dX11_mark_75 rfl (lv_at hl 4 rfl) ?_
  refine lv_if_eq (tgt := 103) hx hb dX11_mark_76 (by decide) (fun _ => ?_) (fun c_ => absurd (by decide +kernel) c_)
  refine lv_aload_n hx hb dX11_mark_103 rfl (lv_at hl 2 rfl) ?_
  refine xget F hP 8 rfl rfl inX11 55 (by decide) tb1237 rfl dX11_mark_104 ?_
  refine lv_iconst (v := 0) hx hb dX11_mark_107 (by decide) ?_
  refine lv_aload_n hx hb dX11_mark_108 rfl (lv_at hl 2 rfl) ?_
  refine xget F hP 8 rfl rfl inX11 57 (by decide) tb1239 rfl dX11_mark_109 ?_
  refine lv_bipush (v := 13) hx hb dX11_mark_112 (by decide) ?_
  refine lv_iload_n hx hb dX11_mark_114 rfl (lv_at hl 3 rfl) ?_
  refine lv_imul hx hb dX11_mark_115 ?_
  refine relit (v := 39) (by decide +kernel) ?_
  refine goV (wr := [(h60, .inl (aC 3, 4, .inl (upd (fun _ => 0) 3 1))), (h47, .inl (aC 0, 6, .inl (fun _ => 0))), (h48, .inl (aC 0, 240, .inl (fun _ => 0))), (h49, .inl (aC 0, 240, .inl (fun _ => 0))), (h50, .inl (aC 0, 240, .inl (fun _ => 0))), (h51, .inl (aC 0, 240, .inl (fun _ => 0))), (h1, .inr (11, [.int 0, x2, x3, x4, x5, x6, x7, x8, x9, x10, x11, x12, x13, x14, x15, x16, x17, x18, x19, x20, x21, x22, x23, x24, x25, x26, x27, x28, x29, x30, x31, x32, x33, x34, x35, x36, x37, x38, x39, x40, x41, x42, x43, x44, x45, x46, .ref h47, .ref h48, .ref h49, .ref h50, .ref h51, .ref h52, .ref h53, .ref h54, .ref h55, .ref h56, x57, .ref h58, x59, .ref h60, x61, x62, x63, x64, x65, x66, x67, x68, x69, x70, x71, x72, x73, x74])), (h52, .inl (aC 0, 5, .inl (fun _ => 0))), (h53, .inl (aC 0, 40, .inl (fun _ => 0))), (h54, .inl (aC 0, 40, .inl (fun _ => 0))), (h55, .inl (aC 3, 40, .inl (fun _ => 0)))]) (runS (n := 4) (As := [.ref h56, .int 0, .ref h58, .int 39]) (rest := []) F hP hD hS (a_X11_copies_7 l g aC aM h56 h58) [0, 1] (by decide) rfl tb1700 tb1698 tb1699 tb17 ⟨by decide, by decide, by decide +kernel⟩ ⟨Nat.le_of_ble_eq_true rfl, Nat.le_of_ble_eq_true rfl⟩ rfl hl.1 rfl (Nat.le_of_ble_eq_true rfl) dX11_mark_116 ⟨Nat.le_of_ble_eq_true rfl, Nat.le_of_ble_eq_true rfl⟩) hP hD hS hA [0, 1] [2, 3, 4, 5, 6, 7, 8, 9, 10, 11, 12] rfl rfl (by decide) (by decide) (fun w17 H locs hw hP hD hS => ?_)
  have hP : va_P g vwCl [(h60, .inl (aC 3, 4, .inl (upd (fun _ => 0) 3 1))), (h47, .inl (aC 0, 6, .inl (fun _ => 0))), (h48, .inl (aC 0, 240, .inl (fun _ => 0))), (h49, .inl (aC 0, 240, .inl (fun _ => 0))), (h50, .inl (aC 0, 240, .inl (fun _ => 0))), (h51, .inl (aC 0, 240, .inl (fun _ => 0))), (h1, .inr (11, [.int 0, x2, x3, x4, x5, x6, x7, x8, x9, x10, x11, x12, x13, x14, x15, x16, x17, x18, x19, x20, x21, x22, x23, x24, x25, x26, x27, x28, x29, x30, x31, x32, x33, x34, x35, x36, x37, x38, x39, x40, x41, x42, x43, x44, x45, x46, .ref h47, .ref h48, .ref h49, .ref h50, .ref h51, .ref h52, .ref h53, .ref h54, .ref h55, .ref h56, x57, .ref h58, x59, .ref h60, x61, x62, x63, x64, x65, x66, x67, x68, x69, x70, x71, x72, x73, x74])), (h52, .inl (aC 0, 5, .inl (fun _ => 0))), (h53, .inl (aC 0, 40, .inl (fun _ => 0))), (h54, .inl (aC 0, 40, .inl (fun _ => 0))), (h55, .inl (aC 3, 40, .inl (fun _ => 0))), (h56, .inl (aC 0, 13, .inl (fun _ => 0))), (h58, .inl (aC 0, 52, .inl (fun _ => 0)))] H := hP
  have hD : va_D A [(h60, .inl (aC 3, 4, .inl (upd (fun _ => 0) 3 1))), (h47, .inl (aC 0, 6, .inl (fun _ => 0))), (h48, .inl (aC 0, 240, .inl (fun _ => 0))), (h49, .inl (aC 0, 240, .inl (fun _ => 0))), (h50, .inl (aC 0, 240, .inl (fun _ => 0))), (h51, .inl (aC 0, 240, .inl (fun _ => 0))), (h1, .inr (11, [.int 0, x2, x3, x4, x5, x6, x7, x8, x9, x10, x11, x12, x13, x14, x15, x16, x17, x18, x19, x20, x21, x22, x23, x24, x25, x26, x27, x28, x29, x30, x31, x32, x33, x34, x35, x36, x37, x38, x39, x40, x41, x42, x43, x44, x45, x46, .ref h47, .ref h48, .ref h49, .ref h50, .ref h51, .ref h52, .ref h53, .ref h54, .ref h55, .ref h56, x57, .ref h58, x59, .ref h60, x61, x62, x63, x64, x65, x66, x67, x68, x69, x70, x71, x72, x73, x74])), (h52, .inl (aC 0, 5, .inl (fun _ => 0))), (h53, .inl (aC 0, 40, .inl (fun _ => 0))), (h54, .inl (aC 0, 40, .inl (fun _ => 0))), (h55, .inl (aC 3, 40, .inl (fun _ => 0))), (h56, .inl (aC 0, 13, .inl (fun _ => 0))), (h58, .inl (aC 0, 52, .inl (fun _ => 0)))] := hD
  refine lv_iconst (v := 1) hx hb dX11_mark_119 (by decide) ?_
  have hP9 := hP.sub (ws' := []) [] rfl
  have hD9 := hD.sub (ws' := []) [] (by decide) rfl
  exact rI () hx hb hr hlk rfl hS rfl hP9 hD9 (Nat.le_of_ble_eq_true rfl) (Nat.le_of_ble_eq_true rfl) dX11_mark_120

set_option maxHeartbeats 4000000 in
set_option maxRecDepth 100000 in
theorem m_mark_lo1 (l : Launch) (g : va_G) (aC : Nat → ClassId) (aM : Nat → Nat) (h1 h47 h48 h49 h50 h51 h52 h53 h54 h55 h56 h58 h60 : Nat) (x2 x3 x4 x5 x6 x7 x8 x9 x10 x11 x12 x13 x14 x15 x16 x17 x18 x19 x20 x21 x22 x23 x24 x25 x26 x27 x28 x29 x30 x31 x32 x33 x34 x35 x36 x37 x38 x39 x40 x41 x42 x43 x44 x45 x46 x57 x59 x61 x62 x63 x64 x65 x66 x67 x68 x69 x70 x71 x72 x73 x74 : Value) (n_1 : Int32) (hh1 : n_1 ≤ (-1)) : Ct l g aC aM yX11_mark cX11_mark 5 (some .boolean) 2 [.ref h1, .int n_1, .int 1] [(h1, .inr (11, [.int 0, x2, x3, x4, x5, x6, x7, x8, x9, x10, x11, x12, x13, x14, x15, x16, x17, x18, x19, x20, x21, x22, x23, x24, x25, x26, x27, x28, x29, x30, x31, x32, x33, x34, x35, x36, x37, x38, x39, x40, x41, x42, x43, x44, x45, x46, .ref h47, .ref h48, .ref h49, .ref h50, .ref h51, .ref h52, .ref h53, .ref h54, .ref h55, .ref h56, x57, .ref h58, x59, .ref h60, x61, x62, x63, x64, x65, x66, x67, x68, x69, x70, x71, x72, x73, x74])), (h47, .inl (aC 0, 6, .inl (fun _ => 0))), (h48, .inl (aC 0, 240, .inl (fun _ => 0))), (h49, .inl (aC 0, 240, .inl (fun _ => 0))), (h50, .inl (aC 0, 240, .inl (fun _ => 0))), (h51, .inl (aC 0, 240, .inl (fun _ => 0))), (h52, .inl (aC 0, 5, .inl (fun _ => 0))), (h53, .inl (aC 0, 40, .inl (fun _ => 0))), (h54, .inl (aC 0, 40, .inl (fun _ => 0))), (h55, .inl (aC 3, 40, .inl (fun _ => 0))), (h56, .inl (aC 0, 13, .inl (fun _ => 0))), (h58, .inl (aC 0, 52, .inl (fun _ => 0))), (h60, .inl (aC 3, 4, .inl (fun _ => 0)))] (QI g (fun (r : Int32) (_ : Unit) => r = 0) (fun (_ : Unit) => [])) 0 0 := by
  refine Ct.mk (by decide) (Nat.le_of_ble_eq_true rfl) ?_
  intro p e s m below meth c A ls hx hb hml hown hts hr hlk hnm hK hA hM hM2 hP hD hS hl
  have hown : s.vm.findClass RX11 = some m.cls := hown
  have F : Fx p s m _ c cX11_mark 5 RX11 g aC aM A := ⟨hx, hb, hml, hown, hts, hK, hA, hM, hM2⟩
  have hl : lv_has ls 5 [(0, .ref h1), (1, .int n_1), (2, .int 1)] := hl
  refine lv_aload_n hx hb dX11_mark_0 rfl (lv_at hl 0 rfl) ?_
  refine lv_iconst (v := 0) hx hb dX11_mark_1 (by decide) ?_
  refine xput F hP hD hS 0 rfl rfl inX11 tyX11_ok nmX11 0 (by decide) tb1182 rfl rfl rfl (Nat.le_of_ble_eq_true rfl) dX11_mark_2 (fun H locs hP hD hS => ?_)
  have hP : va_P g vwCl [(h1, .inr (11, [.int 0, x2, x3, x4, x5, x6, x7, x8, x9, x10, x11, x12, x13, x14, x15, x16, x17, x18, x19, x20, x21, x22, x23, x24, x25, x26, x27, x28, x29, x30, x31, x32, x33, x34, x35, x36, x37, x38, x39, x40, x41, x42, x43, x44, x45, x46, .ref h47, .ref h48, .ref h49, .ref h50, .ref h51, .ref h52, .ref h53, .ref h54, .ref h55, .ref h56, x57, .ref h58, x59, .ref h60, x61, x62, x63, x64, x65, x66, x67, x68, x69, x70, x71, x72, x73, x74])), (h47, .inl (aC 0, 6, .inl (fun _ => 0))), (h48, .inl (aC 0, 240, .inl (fun _ => 0))), (h49, .inl (aC 0, 240, .inl (fun _ => 0))), (h50, .inl (aC 0, 240, .inl (fun _ => 0))), (h51, .inl (aC 0, 240, .inl (fun _ => 0))), (h52, .inl (aC 0, 5, .inl (fun _ => 0))), (h53, .inl (aC 0, 40, .inl (fun _ => 0))), (h54, .inl (aC 0, 40, .inl (fun _ => 0))), (h55, .inl (aC 3, 40, .inl (fun _ => 0))), (h56, .inl (aC 0, 13, .inl (fun _ => 0))), (h58, .inl (aC 0, 52, .inl (fun _ => 0))), (h60, .inl (aC 3, 4, .inl (fun _ => 0)))] H := hP
  have hD : va_D A [(h1, .inr (11, [.int 0, x2, x3, x4, x5, x6, x7, x8, x9, x10, x11, x12, x13, x14, x15, x16, x17, x18, x19, x20, x21, x22, x23, x24, x25, x26, x27, x28, x29, x30, x31, x32, x33, x34, x35, x36, x37, x38, x39, x40, x41, x42, x43, x44, x45, x46, .ref h47, .ref h48, .ref h49, .ref h50, .ref h51, .ref h52, .ref h53, .ref h54, .ref h55, .ref h56, x57, .ref h58, x59, .ref h60, x61, x62, x63, x64, x65, x66, x67, x68, x69, x70, x71, x72, x73, x74])), (h47, .inl (aC 0, 6, .inl (fun _ => 0))), (h48, .inl (aC 0, 240, .inl (fun _ => 0))), (h49, .inl (aC 0, 240, .inl (fun _ => 0))), (h50, .inl (aC 0, 240, .inl (fun _ => 0))), (h51, .inl (aC 0, 240, .inl (fun _ => 0))), (h52, .inl (aC 0, 5, .inl (fun _ => 0))), (h53, .inl (aC 0, 40, .inl (fun _ => 0))), (h54, .inl (aC 0, 40, .inl (fun _ => 0))), (h55, .inl (aC 3, 40, .inl (fun _ => 0))), (h56, .inl (aC 0, 13, .inl (fun _ => 0))), (h58, .inl (aC 0, 52, .inl (fun _ => 0))), (h60, .inl (aC 3, 4, .inl (fun _ => 0)))] := hD
  refine lv_iload_n hx hb dX11_mark_5 rfl (lv_at hl 1 rfl) ?_
  refine lv_iconst (v := 0) hx hb dX11_mark_6 (by decide) ?_
  refine lv_iconst (v := 3) hx hb dX11_mark_7 (by decide) ?_
  refine goI (wr := [(h1, .inr (11, [.int 0, x2, x3, x4, x5, x6, x7, x8, x9, x10, x11, x12, x13, x14, x15, x16, x17, x18, x19, x20, x21, x22, x23, x24, x25, x26, x27, x28, x29, x30, x31, x32, x33, x34, x35, x36, x37, x38, x39, x40, x41, x42, x43, x44, x45, x46, .ref h47, .ref h48, .ref h49, .ref h50, .ref h51, .ref h52, .ref h53, .ref h54, .ref h55, .ref h56, x57, .ref h58, x59, .ref h60, x61, x62, x63, x64, x65, x66, x67, x68, x69, x70, x71, x72, x73, x74])), (h47, .inl (aC 0, 6, .inl (fun _ => 0))), (h48, .inl (aC 0, 240, .inl (fun _ => 0))), (h49, .inl (aC 0, 240, .inl (fun _ => 0))), (h50, .inl (aC 0, 240, .inl (fun _ => 0))), (h51, .inl (aC 0, 240, .inl (fun _ => 0))), (h52, .inl (aC 0, 5, .inl (fun _ => 0))), (h53, .inl (aC 0, 40, .inl (fun _ => 0))), (h54, .inl (aC 0, 40, .inl (fun _ => 0))), (h55, .inl (aC 3, 40, .inl (fun _ => 0))), (h56, .inl (aC 0, 13, .inl (fun _ => 0))), (h58, .inl (aC 0, 52, .inl (fun _ => 0))), (h60, .inl (aC 3, 4, .inl (fun _ => 0)))]) (runS (n := 3) (As := [.int n_1, .int 0, .int 3]) (rest := []) F hP hD hS (k_within_lo l g aC aM n_1 0 3 (by have a0_ := hh1; simp only [Int32.lt_iff_toInt_lt, Int32.le_iff_toInt_le, ← Int32.toInt_inj, show (-1 : Int32).toInt = -1 by decide, show (0 : Int32).toInt = 0 by decide, show (3 : Int32).toInt = 3 by decide] at a0_ ⊢; omega)) [] (by decide) rfl tb1511 tb1509 tb1510 tb17 ⟨by decide, by decide, by decide +kernel⟩ ⟨Nat.le_of_ble_eq_true rfl, Nat.le_of_ble_eq_true rfl⟩ rfl hl.1 rfl (Nat.le_of_ble_eq_true rfl) dX11_mark_8 ⟨Nat.le_of_ble_eq_true rfl, Nat.le_of_ble_eq_true rfl⟩) hP hD hS hA [] [0, 1, 2, 3, 4, 5, 6, 7, 8, 9, 10, 11, 12] rfl rfl (by decide) (by decide) (fun r_2 w3 H locs hw hP hD hS => ?_)
  have hP : va_P g vwCl [(h1, .inr (11, [.int 0, x2, x3, x4, x5, x6, x7, x8, x9, x10, x11, x12, x13, x14, x15, x16, x17, x18, x19, x20, x21, x22, x23, x24, x25, x26, x27, x28, x29, x30, x31, x32, x33, x34, x35, x36, x37, x38, x39, x40, x41, x42, x43, x44, x45, x46, .ref h47, .ref h48, .ref h49, .ref h50, .ref h51, .ref h52, .ref h53, .ref h54, .ref h55, .ref h56, x57, .ref h58, x59, .ref h60, x61, x62, x63, x64, x65, x66, x67, x68, x69, x70, x71, x72, x73, x74])), (h47, .inl (aC 0, 6, .inl (fun _ => 0))), (h48, .inl (aC 0, 240, .inl (fun _ => 0))), (h49, .inl (aC 0, 240, .inl (fun _ => 0))), (h50, .inl (aC 0, 240, .inl (fun _ => 0))), (h51, .inl (aC 0, 240, .inl (fun _ => 0))), (h52, .inl (aC 0, 5, .inl (fun _ => 0))), (h53, .inl (aC 0, 40, .inl (fun _ => 0))), (h54, .inl (aC 0, 40, .inl (fun _ => 0))), (h55, .inl (aC 3, 40, .inl (fun _ => 0))), (h56, .inl (aC 0, 13, .inl (fun _ => 0))), (h58, .inl (aC 0, 52, .inl (fun _ => 0))), (h60, .inl (aC 3, 4, .inl (fun _ => 0)))] H := hP
  have hD : va_D A [(h1, .inr (11, [.int 0, x2, x3, x4, x5, x6, x7, x8, x9, x10, x11, x12, x13, x14, x15, x16, x17, x18, x19, x20, x21, x22, x23, x24, x25, x26, x27, x28, x29, x30, x31, x32, x33, x34, x35, x36, x37, x38, x39, x40, x41, x42, x43, x44, x45, x46, .ref h47, .ref h48, .ref h49, .ref h50, .ref h51, .ref h52, .ref h53, .ref h54, .ref h55, .ref h56, x57, .ref h58, x59, .ref h60, x61, x62, x63, x64, x65, x66, x67, x68, x69, x70, x71, x72, x73, x74])), (h47, .inl (aC 0, 6, .inl (fun _ => 0))), (h48, .inl (aC 0, 240, .inl (fun _ => 0))), (h49, .inl (aC 0, 240, .inl (fun _ => 0))), (h50, .inl (aC 0, 240, .inl (fun _ => 0))), (h51, .inl (aC 0, 240, .inl (fun _ => 0))), (h52, .inl (aC 0, 5, .inl (fun _ => 0))), (h53, .inl (aC 0, 40, .inl (fun _ => 0))), (h54, .inl (aC 0, 40, .inl (fun _ => 0))), (h55, .inl (aC 3, 40, .inl (fun _ => 0))), (h56, .inl (aC 0, 13, .inl (fun _ => 0))), (h58, .inl (aC 0, 52, .inl (fun _ => 0))), (h60, .inl (aC 3, 4, .inl (fun _ => 0)))] := hD
  try dsimp only at hw
  subst hw
  refine lv_if_eq (tgt := 27) hx hb dX11_mark_11 (by decide) (fun _ => ?_) (fun c_ => absurd (by decide +kernel) c_)
  refine lv_iconst (v := 0) hx hb dX11_mark_27 (by decide) ?_
  have hP9 := hP.sub (ws' := []) [] rfl
  have hD9 := hD.sub (ws' := []) [] (by decide) rfl
  exact rI () hx hb hr hlk rfl hS rfl hP9 hD9 (Nat.le_of_ble_eq_true rfl) (Nat.le_of_ble_eq_true rfl) dX11_mark_28

set_option maxHeartbeats 4000000 in
set_option maxRecDepth 100000 in
theorem m_mark_hi1 (l : Launch) (g : va_G) (aC : Nat → ClassId) (aM : Nat → Nat) (h1 h47 h48 h49 h50 h51 h52 h53 h54 h55 h56 h58 h60 : Nat) (x2 x3 x4 x5 x6 x7 x8 x9 x10 x11 x12 x13 x14 x15 x16 x17 x18 x19 x20 x21 x22 x23 x24 x25 x26 x27 x28 x29 x30 x31 x32 x33 x34 x35 x36 x37 x38 x39 x40 x41 x42 x43 x44 x45 x46 x57 x59 x61 x62 x63 x64 x65 x66 x67 x68 x69 x70 x71 x72 x73 x74 : Value) (n_1 : Int32) (hl1 : 4 ≤ n_1) : Ct l g aC aM yX11_mark cX11_mark 5 (some .boolean) 2 [.ref h1, .int n_1, .int 1] [(h1, .inr (11, [.int 0, x2, x3, x4, x5, x6, x7, x8, x9, x10, x11, x12, x13, x14, x15, x16, x17, x18, x19, x20, x21, x22, x23, x24, x25, x26, x27, x28, x29, x30, x31, x32, x33, x34, x35, x36, x37, x38, x39, x40, x41, x42, x43, x44, x45, x46, .ref h47, .ref h48, .ref h49, .ref h50, .ref h51, .ref h52, .ref h53, .ref h54, .ref h55, .ref h56, x57, .ref h58, x59, .ref h60, x61, x62, x63, x64, x65, x66, x67, x68, x69, x70, x71, x72, x73, x74])), (h47, .inl (aC 0, 6, .inl (fun _ => 0))), (h48, .inl (aC 0, 240, .inl (fun _ => 0))), (h49, .inl (aC 0, 240, .inl (fun _ => 0))), (h50, .inl (aC 0, 240, .inl (fun _ => 0))), (h51, .inl (aC 0, 240, .inl (fun _ => 0))), (h52, .inl (aC 0, 5, .inl (fun _ => 0))), (h53, .inl (aC 0, 40, .inl (fun _ => 0))), (h54, .inl (aC 0, 40, .inl (fun _ => 0))), (h55, .inl (aC 3, 40, .inl (fun _ => 0))), (h56, .inl (aC 0, 13, .inl (fun _ => 0))), (h58, .inl (aC 0, 52, .inl (fun _ => 0))), (h60, .inl (aC 3, 4, .inl (fun _ => 0)))] (QI g (fun (r : Int32) (_ : Unit) => r = 0) (fun (_ : Unit) => [])) 0 0 := by
  refine Ct.mk (by decide) (Nat.le_of_ble_eq_true rfl) ?_
  intro p e s m below meth c A ls hx hb hml hown hts hr hlk hnm hK hA hM hM2 hP hD hS hl
  have hown : s.vm.findClass RX11 = some m.cls := hown
  have F : Fx p s m _ c cX11_mark 5 RX11 g aC aM A := ⟨hx, hb, hml, hown, hts, hK, hA, hM, hM2⟩
  have hl : lv_has ls 5 [(0, .ref h1), (1, .int n_1), (2, .int 1)] := hl
  refine lv_aload_n hx hb dX11_mark_0 rfl (lv_at hl 0 rfl) ?_
  refine lv_iconst (v := 0) hx hb dX11_mark_1 (by decide) ?_
  refine xput F hP hD hS 0 rfl rfl inX11 tyX11_ok nmX11 0 (by decide) tb1182 rfl rfl rfl (Nat.le_of_ble_eq_true rfl) dX11_mark_2 (fun H locs hP hD hS => ?_)
  have hP : va_P g vwCl [(h1, .inr (11, [.int 0, x2, x3, x4, x5, x6, x7, x8, x9, x10, x11, x12, x13, x14, x15, x16, x17, x18, x19, x20, x21, x22, x23, x24, x25, x26, x27, x28, x29, x30, x31, x32, x33, x34, x35, x36, x37, x38, x39, x40, x41, x42, x43, x44, x45, x46, .ref h47, .ref h48, .ref h49, .ref h50, .ref h51, .ref h52, .ref h53, .ref h54, .ref h55, .ref h56, x57, .ref h58, x59, .ref h60, x61, x62, x63, x64, x65, x66, x67, x68, x69, x70, x71, x72, x73, x74])), (h47, .inl (aC 0, 6, .inl (fun _ => 0))), (h48, .inl (aC 0, 240, .inl (fun _ => 0))), (h49, .inl (aC 0, 240, .inl (fun _ => 0))), (h50, .inl (aC 0, 240, .inl (fun _ => 0))), (h51, .inl (aC 0, 240, .inl (fun _ => 0))), (h52, .inl (aC 0, 5, .inl (fun _ => 0))), (h53, .inl (aC 0, 40, .inl (fun _ => 0))), (h54, .inl (aC 0, 40, .inl (fun _ => 0))), (h55, .inl (aC 3, 40, .inl (fun _ => 0))), (h56, .inl (aC 0, 13, .inl (fun _ => 0))), (h58, .inl (aC 0, 52, .inl (fun _ => 0))), (h60, .inl (aC 3, 4, .inl (fun _ => 0)))] H := hP
  have hD : va_D A [(h1, .inr (11, [.int 0, x2, x3, x4, x5, x6, x7, x8, x9, x10, x11, x12, x13, x14, x15, x16, x17, x18, x19, x20, x21, x22, x23, x24, x25, x26, x27, x28, x29, x30, x31, x32, x33, x34, x35, x36, x37, x38, x39, x40, x41, x42, x43, x44, x45, x46, .ref h47, .ref h48, .ref h49, .ref h50, .ref h51, .ref h52, .ref h53, .ref h54, .ref h55, .ref h56, x57, .ref h58, x59, .ref h60, x61, x62, x63, x64, x65, x66, x67, x68, x69, x70, x71, x72, x73, x74])), (h47, .inl (aC 0, 6, .inl (fun _ => 0))), (h48, .inl (aC 0, 240, .inl (fun _ => 0))), (h49, .inl (aC 0, 240, .inl (fun _ => 0))), (h50, .inl (aC 0, 240, .inl (fun _ => 0))), (h51, .inl (aC 0, 240, .inl (fun _ => 0))), (h52, .inl (aC 0, 5, .inl (fun _ => 0))), (h53, .inl (aC 0, 40, .inl (fun _ => 0))), (h54, .inl (aC 0, 40, .inl (fun _ => 0))), (h55, .inl (aC 3, 40, .inl (fun _ => 0))), (h56, .inl (aC 0, 13, .inl (fun _ => 0))), (h58, .inl (aC 0, 52, .inl (fun _ => 0))), (h60, .inl (aC 3, 4, .inl (fun _ => 0)))] := hD
  refine lv_iload_n hx hb dX11_mark_5 rfl (lv_at hl 1 rfl) ?_
  refine lv_iconst (v := 0) hx hb dX11_mark_6 (by decide) ?_
  refine lv_iconst (v := 3) hx hb dX11_mark_7 (by decide) ?_
  refine goI (wr := [(h1, .inr (11, [.int 0, x2, x3, x4, x5, x6, x7, x8, x9, x10, x11, x12, x13, x14, x15, x16, x17, x18, x19, x20, x21, x22, x23, x24, x25, x26, x27, x28, x29, x30, x31, x32, x33, x34, x35, x36, x37, x38, x39, x40, x41, x42, x43, x44, x45, x46, .ref h47, .ref h48, .ref h49, .ref h50, .ref h51, .ref h52, .ref h53, .ref h54, .ref h55, .ref h56, x57, .ref h58, x59, .ref h60, x61, x62, x63, x64, x65, x66, x67, x68, x69, x70, x71, x72, x73, x74])), (h47, .inl (aC 0, 6, .inl (fun _ => 0))), (h48, .inl (aC 0, 240, .inl (fun _ => 0))), (h49, .inl (aC 0, 240, .inl (fun _ => 0))), (h50, .inl (aC 0, 240, .inl (fun _ => 0))), (h51, .inl (aC 0, 240, .inl (fun _ => 0))), (h52, .inl (aC 0, 5, .inl (fun _ => 0))), (h53, .inl (aC 0, 40, .inl (fun _ => 0))), (h54, .inl (aC 0, 40, .inl (fun _ => 0))), (h55, .inl (aC 3, 40, .inl (fun _ => 0))), (h56, .inl (aC 0, 13, .inl (fun _ => 0))), (h58, .inl (aC 0, 52, .inl (fun _ => 0))), (h60, .inl (aC 3, 4, .inl (fun _ => 0)))]) (runS (n := 3) (As := [.int n_1, .int 0, .int 3]) (rest := []) F hP hD hS (k_within_hi l g aC aM n_1 0 3 (by have a0_ := hl1; simp only [Int32.lt_iff_toInt_lt, Int32.le_iff_toInt_le, ← Int32.toInt_inj, show (0 : Int32).toInt = 0 by decide, show (3 : Int32).toInt = 3 by decide, show (4 : Int32).toInt = 4 by decide] at a0_ ⊢; omega) (by have a0_ := hl1; simp only [Int32.lt_iff_toInt_lt, Int32.le_iff_toInt_le, ← Int32.toInt_inj, show (0 : Int32).toInt = 0 by decide, show (3 : Int32).toInt = 3 by decide, show (4 : Int32).toInt = 4 by decide] at a0_ ⊢; omega)) [] (by decide) rfl tb1511 tb1509 tb1510 tb17 ⟨by decide, by decide, by decide +kernel⟩ ⟨Nat.le_of_ble_eq_true rfl, Nat.le_of_ble_eq_true rfl⟩ rfl hl.1 rfl (Nat.le_of_ble_eq_true rfl) dX11_mark_8 ⟨Nat.le_of_ble_eq_true rfl, Nat.le_of_ble_eq_true rfl⟩) hP hD hS hA [] [0, 1, 2, 3, 4, 5, 6, 7, 8, 9, 10, 11, 12] rfl rfl (by decide) (by decide) (fun r_2 w3 H locs hw hP hD hS => ?_)
  have hP : va_P g vwCl [(h1, .inr (11, [.int 0, x2, x3, x4, x5, x6, x7, x8, x9, x10, x11, x12, x13, x14, x15, x16, x17, x18, x19, x20, x21, x22, x23, x24, x25, x26, x27, x28, x29, x30, x31, x32, x33, x34, x35, x36, x37, x38, x39, x40, x41, x42, x43, x44, x45, x46, .ref h47, .ref h48, .ref h49, .ref h50, .ref h51, .ref h52, .ref h53, .ref h54, .ref h55, .ref h56, x57, .ref h58, x59, .ref h60, x61, x62, x63, x64, x65, x66, x67, x68, x69, x70, x71, x72, x73, x74])), (h47, .inl (aC 0, 6, .inl (fun _ => 0))), (h48, .inl (aC 0, 240, .inl (fun _ => 0))), (h49, .inl (aC 0, 240, .inl (fun _ => 0))), (h50, .inl (aC 0, 240, .inl (fun _ => 0))), (h51, .inl (aC 0, 240, .inl (fun _ => 0))), (h52, .inl (aC 0, 5, .inl (fun _ => 0))), (h53, .inl (aC 0, 40, .inl (fun _ => 0))), (h54, .inl (aC 0, 40, .inl (fun _ => 0))), (h55, .inl (aC 3, 40, .inl (fun _ => 0))), (h56, .inl (aC 0, 13, .inl (fun _ => 0))), (h58, .inl (aC 0, 52, .inl (fun _ => 0))), (h60, .inl (aC 3, 4, .inl (fun _ => 0)))] H := hP
  have hD : va_D A [(h1, .inr (11, [.int 0, x2, x3, x4, x5, x6, x7, x8, x9, x10, x11, x12, x13, x14, x15, x16, x17, x18, x19, x20, x21, x22, x23, x24, x25, x26, x27, x28, x29, x30, x31, x32, x33, x34, x35, x36, x37, x38, x39, x40, x41, x42, x43, x44, x45, x46, .ref h47, .ref h48, .ref h49, .ref h50, .ref h51, .ref h52, .ref h53, .ref h54, .ref h55, .ref h56, x57, .ref h58, x59, .ref h60, x61, x62, x63, x64, x65, x66, x67, x68, x69, x70, x71, x72, x73, x74])), (h47, .inl (aC 0, 6, .inl (fun _ => 0))), (h48, .inl (aC 0, 240, .inl (fun _ => 0))), (h49, .inl (aC 0, 240, .inl (fun _ => 0))), (h50, .inl (aC 0, 240, .inl (fun _ => 0))), (h51, .inl (aC 0, 240, .inl (fun _ => 0))), (h52, .inl (aC 0, 5, .inl (fun _ => 0))), (h53, .inl (aC 0, 40, .inl (fun _ => 0))), (h54, .inl (aC 0, 40, .inl (fun _ => 0))), (h55, .inl (aC 3, 40, .inl (fun _ => 0))), (h56, .inl (aC 0, 13, .inl (fun _ => 0))), (h58, .inl (aC 0, 52, .inl (fun _ => 0))), (h60, .inl (aC 3, 4, .inl (fun _ => 0)))] := hD
  try dsimp only at hw
  subst hw
  refine lv_if_eq (tgt := 27) hx hb dX11_mark_11 (by decide) (fun _ => ?_) (fun c_ => absurd (by decide +kernel) c_)
  refine lv_iconst (v := 0) hx hb dX11_mark_27 (by decide) ?_
  have hP9 := hP.sub (ws' := []) [] rfl
  have hD9 := hD.sub (ws' := []) [] (by decide) rfl
  exact rI () hx hb hr hlk rfl hS rfl hP9 hD9 (Nat.le_of_ble_eq_true rfl) (Nat.le_of_ble_eq_true rfl) dX11_mark_28

set_option maxHeartbeats 4000000 in
set_option maxRecDepth 100000 in
theorem m_mark_01 (l : Launch) (g : va_G) (aC : Nat → ClassId) (aM : Nat → Nat) (h1 h47 h48 h49 h50 h51 h52 h53 h54 h55 h56 h58 h60 : Nat) (x2 x3 x4 x5 x6 x7 x8 x9 x10 x11 x12 x13 x14 x15 x16 x17 x18 x19 x20 x21 x22 x23 x24 x25 x26 x27 x28 x29 x30 x31 x32 x33 x34 x35 x36 x37 x38 x39 x40 x41 x42 x43 x44 x45 x46 x57 x59 x61 x62 x63 x64 x65 x66 x67 x68 x69 x70 x71 x72 x73 x74 : Value) : Ct l g aC aM yX11_mark cX11_mark 5 (some .boolean) 2 [.ref h1, .int 0, .int 1] [(h1, .inr (11, [.int 0, x2, x3, x4, x5, x6, x7, x8, x9, x10, x11, x12, x13, x14, x15, x16, x17, x18, x19, x20, x21, x22, x23, x24, x25, x26, x27, x28, x29, x30, x31, x32, x33, x34, x35, x36, x37, x38, x39, x40, x41, x42, x43, x44, x45, x46, .ref h47, .ref h48, .ref h49, .ref h50, .ref h51, .ref h52, .ref h53, .ref h54, .ref h55, .ref h56, x57, .ref h58, x59, .ref h60, x61, x62, x63, x64, x65, x66, x67, x68, x69, x70, x71, x72, x73, x74])), (h47, .inl (aC 0, 6, .inl (fun _ => 0))), (h48, .inl (aC 0, 240, .inl (fun _ => 0))), (h49, .inl (aC 0, 240, .inl (fun _ => 0))), (h50, .inl (aC 0, 240, .inl (fun _ => 0))), (h51, .inl (aC 0, 240, .inl (fun _ => 0))), (h52, .inl (aC 0, 5, .inl (fun _ => 0))), (h53, .inl (aC 0, 40, .inl (fun _ => 0))), (h54, .inl (aC 0, 40, .inl (fun _ => 0))), (h55, .inl (aC 3, 40, .inl (fun _ => 0))), (h56, .inl (aC 0, 13, .inl (fun _ => 0))), (h58, .inl (aC 0, 52, .inl (fun _ => 0))), (h60, .inl (aC 3, 4, .inl (fun _ => 0)))] (QI g (fun (r : Int32) (_ : Unit) => r = 0) (fun (_ : Unit) => [])) 0 0 := by
  refine Ct.mk (by decide) (Nat.le_of_ble_eq_true rfl) ?_
  intro p e s m below meth c A ls hx hb hml hown hts hr hlk hnm hK hA hM hM2 hP hD hS hl
  have hown : s.vm.findClass RX11 = some m.cls := hown
  have F : Fx p s m _ c cX11_mark 5 RX11 g aC aM A := ⟨hx, hb, hml, hown, hts, hK, hA, hM, hM2⟩
  have hl : lv_has ls 5 [(0, .ref h1), (1, .int 0), (2, .int 1)] := hl
  refine lv_aload_n hx hb dX11_mark_0 rfl (lv_at hl 0 rfl) ?_
  refine lv_iconst (v := 0) hx hb dX11_mark_1 (by decide) ?_
  refine xput F hP hD hS 0 rfl rfl inX11 tyX11_ok nmX11 0 (by decide) tb1182 rfl rfl rfl (Nat.le_of_ble_eq_true rfl) dX11_mark_2 (fun H locs hP hD hS => ?_)
  have hP : va_P g vwCl [(h1, .inr (11, [.int 0, x2, x3, x4, x5, x6, x7, x8, x9, x10, x11, x12, x13, x14, x15, x16, x17, x18, x19, x20, x21, x22, x23, x24, x25, x26, x27, x28, x29, x30, x31, x32, x33, x34, x35, x36, x37, x38, x39, x40, x41, x42, x43, x44, x45, x46, .ref h47, .ref h48, .ref h49, .ref h50, .ref h51, .ref h52, .ref h53, .ref h54, .ref h55, .ref h56, x57, .ref h58, x59, .ref h60, x61, x62, x63, x64, x65, x66, x67, x68, x69, x70, x71, x72, x73, x74])), (h47, .inl (aC 0, 6, .inl (fun _ => 0))), (h48, .inl (aC 0, 240, .inl (fun _ => 0))), (h49, .inl (aC 0, 240, .inl (fun _ => 0))), (h50, .inl (aC 0, 240, .inl (fun _ => 0))), (h51, .inl (aC 0, 240, .inl (fun _ => 0))), (h52, .inl (aC 0, 5, .inl (fun _ => 0))), (h53, .inl (aC 0, 40, .inl (fun _ => 0))), (h54, .inl (aC 0, 40, .inl (fun _ => 0))), (h55, .inl (aC 3, 40, .inl (fun _ => 0))), (h56, .inl (aC 0, 13, .inl (fun _ => 0))), (h58, .inl (aC 0, 52, .inl (fun _ => 0))), (h60, .inl (aC 3, 4, .inl (fun _ => 0)))] H := hP
  have hD : va_D A [(h1, .inr (11, [.int 0, x2, x3, x4, x5, x6, x7, x8, x9, x10, x11, x12, x13, x14, x15, x16, x17, x18, x19, x20, x21, x22, x23, x24, x25, x26, x27, x28, x29, x30, x31, x32, x33, x34, x35, x36, x37, x38, x39, x40, x41, x42, x43, x44, x45, x46, .ref h47, .ref h48, .ref h49, .ref h50, .ref h51, .ref h52, .ref h53, .ref h54, .ref h55, .ref h56, x57, .ref h58, x59, .ref h60, x61, x62, x63, x64, x65, x66, x67, x68, x69, x70, x71, x72, x73, x74])), (h47, .inl (aC 0, 6, .inl (fun _ => 0))), (h48, .inl (aC 0, 240, .inl (fun _ => 0))), (h49, .inl (aC 0, 240, .inl (fun _ => 0))), (h50, .inl (aC 0, 240, .inl (fun _ => 0))), (h51, .inl (aC 0, 240, .inl (fun _ => 0))), (h52, .inl (aC 0, 5, .inl (fun _ => 0))), (h53, .inl (aC 0, 40, .inl (fun _ => 0))), (h54, .inl (aC 0, 40, .inl (fun _ => 0))), (h55, .inl (aC 3, 40, .inl (fun _ => 0))), (h56, .inl (aC 0, 13, .inl (fun _ => 0))), (h58, .inl (aC 0, 52, .inl (fun _ => 0))), (h60, .inl (aC 3, 4, .inl (fun _ => 0)))] := hD
  refine lv_iload_n hx hb dX11_mark_5 rfl (lv_at hl 1 rfl) ?_
  refine lv_iconst (v := 0) hx hb dX11_mark_6 (by decide) ?_
  refine lv_iconst (v := 3) hx hb dX11_mark_7 (by decide) ?_
  refine goI (wr := [(h1, .inr (11, [.int 0, x2, x3, x4, x5, x6, x7, x8, x9, x10, x11, x12, x13, x14, x15, x16, x17, x18, x19, x20, x21, x22, x23, x24, x25, x26, x27, x28, x29, x30, x31, x32, x33, x34, x35, x36, x37, x38, x39, x40, x41, x42, x43, x44, x45, x46, .ref h47, .ref h48, .ref h49, .ref h50, .ref h51, .ref h52, .ref h53, .ref h54, .ref h55, .ref h56, x57, .ref h58, x59, .ref h60, x61, x62, x63, x64, x65, x66, x67, x68, x69, x70, x71, x72, x73, x74])), (h47, .inl (aC 0, 6, .inl (fun _ => 0))), (h48, .inl (aC 0, 240, .inl (fun _ => 0))), (h49, .inl (aC 0, 240, .inl (fun _ => 0))), (h50, .inl (aC 0, 240, .inl (fun _ => 0))), (h51, .inl (aC 0, 240, .inl (fun _ => 0))), (h52, .inl (aC 0, 5, .inl (fun _ => 0))), (h53, .inl (aC 0, 40, .inl (fun _ => 0))), (h54, .inl (aC 0, 40, .inl (fun _ => 0))), (h55, .inl (aC 3, 40, .inl (fun _ => 0))), (h56, .inl (aC 0, 13, .inl (fun _ => 0))), (h58, .inl (aC 0, 52, .inl (fun _ => 0))), (h60, .inl (aC 3, 4, .inl (fun _ => 0)))]) (runS (n := 3) (As := [.int 0, .int 0, .int 3]) (rest := []) F hP hD hS (a_X11_within_22 l g aC aM ) [] (by decide) rfl tb1511 tb1509 tb1510 tb17 ⟨by decide, by decide, by decide +kernel⟩ ⟨Nat.le_of_ble_eq_true rfl, Nat.le_of_ble_eq_true rfl⟩ rfl hl.1 rfl (Nat.le_of_ble_eq_true rfl) dX11_mark_8 ⟨Nat.le_of_ble_eq_true rfl, Nat.le_of_ble_eq_true rfl⟩) hP hD hS hA [] [0, 1, 2, 3, 4, 5, 6, 7, 8, 9, 10, 11, 12] rfl rfl (by decide) (by decide) (fun r_2 w3 H locs hw hP hD hS => ?_)
  have hP : va_P g vwCl [(h1, .inr (11, [.int 0, x2, x3, x4, x5, x6, x7, x8, x9, x10, x11, x12, x13, x14, x15, x16, x17, x18, x19, x20, x21, x22, x23, x24, x25, x26, x27, x28, x29, x30, x31, x32, x33, x34, x35, x36, x37, x38, x39, x40, x41, x42, x43, x44, x45, x46, .ref h47, .ref h48, .ref h49, .ref h50, .ref h51, .ref h52, .ref h53, .ref h54, .ref h55, .ref h56, x57, .ref h58, x59, .ref h60, x61, x62, x63, x64, x65, x66, x67, x68, x69, x70, x71, x72, x73, x74])), (h47, .inl (aC 0, 6, .inl (fun _ => 0))), (h48, .inl (aC 0, 240, .inl (fun _ => 0))), (h49, .inl (aC 0, 240, .inl (fun _ => 0))), (h50, .inl (aC 0, 240, .inl (fun _ => 0))), (h51, .inl (aC 0, 240, .inl (fun _ => 0))), (h52, .inl (aC 0, 5, .inl (fun _ => 0))), (h53, .inl (aC 0, 40, .inl (fun _ => 0))), (h54, .inl (aC 0, 40, .inl (fun _ => 0))), (h55, .inl (aC 3, 40, .inl (fun _ => 0))), (h56, .inl (aC 0, 13, .inl (fun _ => 0))), (h58, .inl (aC 0, 52, .inl (fun _ => 0))), (h60, .inl (aC 3, 4, .inl (fun _ => 0)))] H := hP
  have hD : va_D A [(h1, .inr (11, [.int 0, x2, x3, x4, x5, x6, x7, x8, x9, x10, x11, x12, x13, x14, x15, x16, x17, x18, x19, x20, x21, x22, x23, x24, x25, x26, x27, x28, x29, x30, x31, x32, x33, x34, x35, x36, x37, x38, x39, x40, x41, x42, x43, x44, x45, x46, .ref h47, .ref h48, .ref h49, .ref h50, .ref h51, .ref h52, .ref h53, .ref h54, .ref h55, .ref h56, x57, .ref h58, x59, .ref h60, x61, x62, x63, x64, x65, x66, x67, x68, x69, x70, x71, x72, x73, x74])), (h47, .inl (aC 0, 6, .inl (fun _ => 0))), (h48, .inl (aC 0, 240, .inl (fun _ => 0))), (h49, .inl (aC 0, 240, .inl (fun _ => 0))), (h50, .inl (aC 0, 240, .inl (fun _ => 0))), (h51, .inl (aC 0, 240, .inl (fun _ => 0))), (h52, .inl (aC 0, 5, .inl (fun _ => 0))), (h53, .inl (aC 0, 40, .inl (fun _ => 0))), (h54, .inl (aC 0, 40, .inl (fun _ => 0))), (h55, .inl (aC 3, 40, .inl (fun _ => 0))), (h56, .inl (aC 0, 13, .inl (fun _ => 0))), (h58, .inl (aC 0, 52, .inl (fun _ => 0))), (h60, .inl (aC 3, 4, .inl (fun _ => 0)))] := hD
  try dsimp only at hw
  subst hw
  refine lv_if_eq (tgt := 27) hx hb dX11_mark_11 (by decide) (fun c_ => absurd c_ (by decide +kernel)) (fun _ => ?_)
  refine lv_iload_n hx hb dX11_mark_14 rfl (lv_at hl 2 rfl) ?_
  refine lv_if_eq (tgt := 29) hx hb dX11_mark_15 (by decide) (fun c_ => absurd c_ (by decide +kernel)) (fun _ => ?_)
  refine lv_aload_n hx hb dX11_mark_18 rfl (lv_at hl 0 rfl) ?_
  refine xget F hP 0 rfl rfl inX11 59 (by decide) tb1241 rfl dX11_mark_19 ?_
  refine lv_iload_n hx hb dX11_mark_22 rfl (lv_at hl 1 rfl) ?_
  refine xzlo (v := 0) F hP 12 rfl 0 (by decide +kernel) (by decide +kernel) (by decide) (by decide +kernel) dX11_mark_23 ?_
  refine lv_if_ne (tgt := 29) hx hb dX11_mark_24 (by decide) (fun c_ => absurd (by decide +kernel) c_) (fun _ => ?_)
  refine lv_iconst (v := 0) hx hb dX11_mark_27 (by decide) ?_
  have hP9 := hP.sub (ws' := []) [] rfl
  have hD9 := hD.sub (ws' := []) [] (by decide) rfl
  exact rI () hx hb hr hlk rfl hS rfl hP9 hD9 (Nat.le_of_ble_eq_true rfl) (Nat.le_of_ble_eq_true rfl) dX11_mark_28

set_option maxHeartbeats 4000000 in
set_option maxRecDepth 100000 in
theorem m_mark_11 (l : Launch) (g : va_G) (aC : Nat → ClassId) (aM : Nat → Nat) (h1 h47 h48 h49 h50 h51 h52 h53 h54 h55 h56 h58 h60 : Nat) (x2 x3 x4 x5 x6 x7 x8 x9 x10 x11 x12 x13 x14 x15 x16 x17 x18 x19 x20 x21 x22 x23 x24 x25 x26 x27 x28 x29 x30 x31 x32 x33 x34 x35 x36 x37 x38 x39 x40 x41 x42 x43 x44 x45 x46 x57 x59 x61 x62 x63 x64 x65 x66 x67 x68 x69 x70 x71 x72 x73 x74 : Value) : Ct l g aC aM yX11_mark cX11_mark 5 (some .boolean) 2 [.ref h1, .int 1, .int 1] [(h1, .inr (11, [.int 0, x2, x3, x4, x5, x6, x7, x8, x9, x10, x11, x12, x13, x14, x15, x16, x17, x18, x19, x20, x21, x22, x23, x24, x25, x26, x27, x28, x29, x30, x31, x32, x33, x34, x35, x36, x37, x38, x39, x40, x41, x42, x43, x44, x45, x46, .ref h47, .ref h48, .ref h49, .ref h50, .ref h51, .ref h52, .ref h53, .ref h54, .ref h55, .ref h56, x57, .ref h58, x59, .ref h60, x61, x62, x63, x64, x65, x66, x67, x68, x69, x70, x71, x72, x73, x74])), (h47, .inl (aC 0, 6, .inl (fun _ => 0))), (h48, .inl (aC 0, 240, .inl (fun _ => 0))), (h49, .inl (aC 0, 240, .inl (fun _ => 0))), (h50, .inl (aC 0, 240, .inl (fun _ => 0))), (h51, .inl (aC 0, 240, .inl (fun _ => 0))), (h52, .inl (aC 0, 5, .inl (fun _ => 0))), (h53, .inl (aC 0, 40, .inl (fun _ => 0))), (h54, .inl (aC 0, 40, .inl (fun _ => 0))), (h55, .inl (aC 3, 40, .inl (fun _ => 0))), (h56, .inl (aC 0, 13, .inl (fun _ => 0))), (h58, .inl (aC 0, 52, .inl (fun _ => 0))), (h60, .inl (aC 3, 4, .inl (fun _ => 0)))] (QI g (fun (r : Int32) (_ : Unit) => r = 0) (fun (_ : Unit) => [])) 0 0 := by
  refine Ct.mk (by decide) (Nat.le_of_ble_eq_true rfl) ?_
  intro p e s m below meth c A ls hx hb hml hown hts hr hlk hnm hK hA hM hM2 hP hD hS hl
  have hown : s.vm.findClass RX11 = some m.cls := hown
  have F : Fx p s m _ c cX11_mark 5 RX11 g aC aM A := ⟨hx, hb, hml, hown, hts, hK, hA, hM, hM2⟩
  have hl : lv_has ls 5 [(0, .ref h1), (1, .int 1), (2, .int 1)] := hl
  refine lv_aload_n hx hb dX11_mark_0 rfl (lv_at hl 0 rfl) ?_
  refine lv_iconst (v := 0) hx hb dX11_mark_1 (by decide) ?_
  refine xput F hP hD hS 0 rfl rfl inX11 tyX11_ok nmX11 0 (by decide) tb1182 rfl rfl rfl (Nat.le_of_ble_eq_true rfl) dX11_mark_2 (fun H locs hP hD hS => ?_)
  have hP : va_P g vwCl [(h1, .inr (11, [.int 0, x2, x3, x4, x5, x6, x7, x8, x9, x10, x11, x12, x13, x14, x15, x16, x17, x18, x19, x20, x21, x22, x23, x24, x25, x26, x27, x28, x29, x30, x31, x32, x33, x34, x35, x36, x37, x38, x39, x40, x41, x42, x43, x44, x45, x46, .ref h47, .ref h48, .ref h49, .ref h50, .ref h51, .ref h52, .ref h53, .ref h54, .ref h55, .ref h56, x57, .ref h58, x59, .ref h60, x61, x62, x63, x64, x65, x66, x67, x68, x69, x70, x71, x72, x73, x74])), (h47, .inl (aC 0, 6, .inl (fun _ => 0))), (h48, .inl (aC 0, 240, .inl (fun _ => 0))), (h49, .inl (aC 0, 240, .inl (fun _ => 0))), (h50, .inl (aC 0, 240, .inl (fun _ => 0))), (h51, .inl (aC 0, 240, .inl (fun _ => 0))), (h52, .inl (aC 0, 5, .inl (fun _ => 0))), (h53, .inl (aC 0, 40, .inl (fun _ => 0))), (h54, .inl (aC 0, 40, .inl (fun _ => 0))), (h55, .inl (aC 3, 40, .inl (fun _ => 0))), (h56, .inl (aC 0, 13, .inl (fun _ => 0))), (h58, .inl (aC 0, 52, .inl (fun _ => 0))), (h60, .inl (aC 3, 4, .inl (fun _ => 0)))] H := hP
  have hD : va_D A [(h1, .inr (11, [.int 0, x2, x3, x4, x5, x6, x7, x8, x9, x10, x11, x12, x13, x14, x15, x16, x17, x18, x19, x20, x21, x22, x23, x24, x25, x26, x27, x28, x29, x30, x31, x32, x33, x34, x35, x36, x37, x38, x39, x40, x41, x42, x43, x44, x45, x46, .ref h47, .ref h48, .ref h49, .ref h50, .ref h51, .ref h52, .ref h53, .ref h54, .ref h55, .ref h56, x57, .ref h58, x59, .ref h60, x61, x62, x63, x64, x65, x66, x67, x68, x69, x70, x71, x72, x73, x74])), (h47, .inl (aC 0, 6, .inl (fun _ => 0))), (h48, .inl (aC 0, 240, .inl (fun _ => 0))), (h49, .inl (aC 0, 240, .inl (fun _ => 0))), (h50, .inl (aC 0, 240, .inl (fun _ => 0))), (h51, .inl (aC 0, 240, .inl (fun _ => 0))), (h52, .inl (aC 0, 5, .inl (fun _ => 0))), (h53, .inl (aC 0, 40, .inl (fun _ => 0))), (h54, .inl (aC 0, 40, .inl (fun _ => 0))), (h55, .inl (aC 3, 40, .inl (fun _ => 0))), (h56, .inl (aC 0, 13, .inl (fun _ => 0))), (h58, .inl (aC 0, 52, .inl (fun _ => 0))), (h60, .inl (aC 3, 4, .inl (fun _ => 0)))] := hD
  refine lv_iload_n hx hb dX11_mark_5 rfl (lv_at hl 1 rfl) ?_
  refine lv_iconst (v := 0) hx hb dX11_mark_6 (by decide) ?_
  refine lv_iconst (v := 3) hx hb dX11_mark_7 (by decide) ?_
  refine goI (wr := [(h1, .inr (11, [.int 0, x2, x3, x4, x5, x6, x7, x8, x9, x10, x11, x12, x13, x14, x15, x16, x17, x18, x19, x20, x21, x22, x23, x24, x25, x26, x27, x28, x29, x30, x31, x32, x33, x34, x35, x36, x37, x38, x39, x40, x41, x42, x43, x44, x45, x46, .ref h47, .ref h48, .ref h49, .ref h50, .ref h51, .ref h52, .ref h53, .ref h54, .ref h55, .ref h56, x57, .ref h58, x59, .ref h60, x61, x62, x63, x64, x65, x66, x67, x68, x69, x70, x71, x72, x73, x74])), (h47, .inl (aC 0, 6, .inl (fun _ => 0))), (h48, .inl (aC 0, 240, .inl (fun _ => 0))), (h49, .inl (aC 0, 240, .inl (fun _ => 0))), (h50, .inl (aC 0, 240, .inl (fun _ => 0))), (h51, .inl (aC 0, 240, .inl (fun _ => 0))), (h52, .inl (aC 0, 5, .inl (fun _ => 0))), (h53, .inl (aC 0, 40, .inl (fun _ => 0))), (h54, .inl (aC 0, 40, .inl (fun _ => 0))), (h55, .inl (aC 3, 40, .inl (fun _ => 0))), (h56, .inl (aC 0, 13, .inl (fun _ => 0))), (h58, .inl (aC 0, 52, .inl (fun _ => 0))), (h60, .inl (aC 3, 4, .inl (fun _ => 0)))]) (runS (n := 3) (As := [.int 1, .int 0, .int 3]) (rest := []) F hP hD hS (a_X11_within_23 l g aC aM ) [] (by decide) rfl tb1511 tb1509 tb1510 tb17 ⟨by decide, by decide, by decide +kernel⟩ ⟨Nat.le_of_ble_eq_true rfl, Nat.le_of_ble_eq_true rfl⟩ rfl hl.1 rfl (Nat.le_of_ble_eq_true rfl) dX11_mark_8 ⟨Nat.le_of_ble_eq_true rfl, Nat.le_of_ble_eq_true rfl⟩) hP hD hS hA [] [0, 1, 2, 3, 4, 5, 6, 7, 8, 9, 10, 11, 12] rfl rfl (by decide) (by decide) (fun r_2 w3 H locs hw hP hD hS => ?_)
  have hP : va_P g vwCl [(h1, .inr (11, [.int 0, x2, x3, x4, x5, x6, x7, x8, x9, x10, x11, x12, x13, x14, x15, x16, x17, x18, x19, x20, x21, x22, x23, x24, x25, x26, x27, x28, x29, x30, x31, x32, x33, x34, x35, x36, x37, x38, x39, x40, x41, x42, x43, x44, x45, x46, .ref h47, .ref h48, .ref h49, .ref h50, .ref h51, .ref h52, .ref h53, .ref h54, .ref h55, .ref h56, x57, .ref h58, x59, .ref h60, x61, x62, x63, x64, x65, x66, x67, x68, x69, x70, x71, x72, x73, x74])), (h47, .inl (aC 0, 6, .inl (fun _ => 0))), (h48, .inl (aC 0, 240, .inl (fun _ => 0))), (h49, .inl (aC 0, 240, .inl (fun _ => 0))), (h50, .inl (aC 0, 240, .inl (fun _ => 0))), (h51, .inl (aC 0, 240, .inl (fun _ => 0))), (h52, .inl (aC 0, 5, .inl (fun _ => 0))), (h53, .inl (aC 0, 40, .inl (fun _ => 0))), (h54, .inl (aC 0, 40, .inl (fun _ => 0))), (h55, .inl (aC 3, 40, .inl (fun _ => 0))), (h56, .inl (aC 0, 13, .inl (fun _ => 0))), (h58, .inl (aC 0, 52, .inl (fun _ => 0))), (h60, .inl (aC 3, 4, .inl (fun _ => 0)))] H := hP
  have hD : va_D A [(h1, .inr (11, [.int 0, x2, x3, x4, x5, x6, x7, x8, x9, x10, x11, x12, x13, x14, x15, x16, x17, x18, x19, x20, x21, x22, x23, x24, x25, x26, x27, x28, x29, x30, x31, x32, x33, x34, x35, x36, x37, x38, x39, x40, x41, x42, x43, x44, x45, x46, .ref h47, .ref h48, .ref h49, .ref h50, .ref h51, .ref h52, .ref h53, .ref h54, .ref h55, .ref h56, x57, .ref h58, x59, .ref h60, x61, x62, x63, x64, x65, x66, x67, x68, x69, x70, x71, x72, x73, x74])), (h47, .inl (aC 0, 6, .inl (fun _ => 0))), (h48, .inl (aC 0, 240, .inl (fun _ => 0))), (h49, .inl (aC 0, 240, .inl (fun _ => 0))), (h50, .inl (aC 0, 240, .inl (fun _ => 0))), (h51, .inl (aC 0, 240, .inl (fun _ => 0))), (h52, .inl (aC 0, 5, .inl (fun _ => 0))), (h53, .inl (aC 0, 40, .inl (fun _ => 0))), (h54, .inl (aC 0, 40, .inl (fun _ => 0))), (h55, .inl (aC 3, 40, .inl (fun _ => 0))), (h56, .inl (aC 0, 13, .inl (fun _ => 0))), (h58, .inl (aC 0, 52, .inl (fun _ => 0))), (h60, .inl (aC 3, 4, .inl (fun _ => 0)))] := hD
  try dsimp only at hw
  subst hw
  refine lv_if_eq (tgt := 27) hx hb dX11_mark_11 (by decide) (fun c_ => absurd c_ (by decide +kernel)) (fun _ => ?_)
  refine lv_iload_n hx hb dX11_mark_14 rfl (lv_at hl 2 rfl) ?_
  refine lv_if_eq (tgt := 29) hx hb dX11_mark_15 (by decide) (fun c_ => absurd c_ (by decide +kernel)) (fun _ => ?_)
  refine lv_aload_n hx hb dX11_mark_18 rfl (lv_at hl 0 rfl) ?_
  refine xget F hP 0 rfl rfl inX11 59 (by decide) tb1241 rfl dX11_mark_19 ?_
  refine lv_iload_n hx hb dX11_mark_22 rfl (lv_at hl 1 rfl) ?_
  refine xzlo (v := 0) F hP 12 rfl 1 (by decide +kernel) (by decide +kernel) (by decide) (by decide +kernel) dX11_mark_23 ?_
  refine lv_if_ne (tgt := 29) hx hb dX11_mark_24 (by decide) (fun c_ => absurd (by decide +kernel) c_) (fun _ => ?_)
  refine lv_iconst (v := 0) hx hb dX11_mark_27 (by decide) ?_
  have hP9 := hP.sub (ws' := []) [] rfl
  have hD9 := hD.sub (ws' := []) [] (by decide) rfl
  exact rI () hx hb hr hlk rfl hS rfl hP9 hD9 (Nat.le_of_ble_eq_true rfl) (Nat.le_of_ble_eq_true rfl) dX11_mark_28

set_option maxHeartbeats 4000000 in
set_option maxRecDepth 100000 in
theorem m_mark_21 (l : Launch) (g : va_G) (aC : Nat → ClassId) (aM : Nat → Nat) (h1 h47 h48 h49 h50 h51 h52 h53 h54 h55 h56 h58 h60 : Nat) (x2 x3 x4 x5 x6 x7 x8 x9 x10 x11 x12 x13 x14 x15 x16 x17 x18 x19 x20 x21 x22 x23 x24 x25 x26 x27 x28 x29 x30 x31 x32 x33 x34 x35 x36 x37 x38 x39 x40 x41 x42 x43 x44 x45 x46 x57 x59 x61 x62 x63 x64 x65 x66 x67 x68 x69 x70 x71 x72 x73 x74 : Value) : Ct l g aC aM yX11_mark cX11_mark 5 (some .boolean) 2 [.ref h1, .int 2, .int 1] [(h1, .inr (11, [.int 0, x2, x3, x4, x5, x6, x7, x8, x9, x10, x11, x12, x13, x14, x15, x16, x17, x18, x19, x20, x21, x22, x23, x24, x25, x26, x27, x28, x29, x30, x31, x32, x33, x34, x35, x36, x37, x38, x39, x40, x41, x42, x43, x44, x45, x46, .ref h47, .ref h48, .ref h49, .ref h50, .ref h51, .ref h52, .ref h53, .ref h54, .ref h55, .ref h56, x57, .ref h58, x59, .ref h60, x61, x62, x63, x64, x65, x66, x67, x68, x69, x70, x71, x72, x73, x74])), (h47, .inl (aC 0, 6, .inl (fun _ => 0))), (h48, .inl (aC 0, 240, .inl (fun _ => 0))), (h49, .inl (aC 0, 240, .inl (fun _ => 0))), (h50, .inl (aC 0, 240, .inl (fun _ => 0))), (h51, .inl (aC 0, 240, .inl (fun _ => 0))), (h52, .inl (aC 0, 5, .inl (fun _ => 0))), (h53, .inl (aC 0, 40, .inl (fun _ => 0))), (h54, .inl (aC 0, 40, .inl (fun _ => 0))), (h55, .inl (aC 3, 40, .inl (fun _ => 0))), (h56, .inl (aC 0, 13, .inl (fun _ => 0))), (h58, .inl (aC 0, 52, .inl (fun _ => 0))), (h60, .inl (aC 3, 4, .inl (fun _ => 0)))] (QI g (fun (r : Int32) (_ : Unit) => r = 0) (fun (_ : Unit) => [])) 0 0 := by
  refine Ct.mk (by decide) (Nat.le_of_ble_eq_true rfl) ?_
  intro p e s m below meth c A ls hx hb hml hown hts hr hlk hnm hK hA hM hM2 hP hD hS hl
  have hown : s.vm.findClass RX11 = some m.cls := hown
  have F : Fx p s m _ c cX11_mark 5 RX11 g aC aM A := ⟨hx, hb, hml, hown, hts, hK, hA, hM, hM2⟩
  have hl : lv_has ls 5 [(0, .ref h1), (1, .int 2), (2, .int 1)] := hl
  refine lv_aload_n hx hb dX11_mark_0 rfl (lv_at hl 0 rfl) ?_
  refine lv_iconst (v := 0) hx hb dX11_mark_1 (by decide) ?_
  refine xput F hP hD hS 0 rfl rfl inX11 tyX11_ok nmX11 0 (by decide) tb1182 rfl rfl rfl (Nat.le_of_ble_eq_true rfl) dX11_mark_2 (fun H locs hP hD hS => ?_)
  have hP : va_P g vwCl [(h1, .inr (11, [.int 0, x2, x3, x4, x5, x6, x7, x8, x9, x10, x11, x12, x13, x14, x15, x16, x17, x18, x19, x20, x21, x22, x23, x24, x25, x26, x27, x28, x29, x30, x31, x32, x33, x34, x35, x36, x37, x38, x39, x40, x41, x42, x43, x44, x45, x46, .ref h47, .ref h48, .ref h49, .ref h50, .ref h51, .ref h52, .ref h53, .ref h54, .ref h55, .ref h56, x57, .ref h58, x59, .ref h60, x61, x62, x63, x64, x65, x66, x67, x68, x69, x70, x71, x72, x73, x74])), (h47, .inl (aC 0, 6, .inl (fun _ => 0))), (h48, .inl (aC 0, 240, .inl (fun _ => 0))), (h49, .inl (aC 0, 240, .inl (fun _ => 0))), (h50, .inl (aC 0, 240, .inl (fun _ => 0))), (h51, .inl (aC 0, 240, .inl (fun _ => 0))), (h52, .inl (aC 0, 5, .inl (fun _ => 0))), (h53, .inl (aC 0, 40, .inl (fun _ => 0))), (h54, .inl (aC 0, 40, .inl (fun _ => 0))), (h55, .inl (aC 3, 40, .inl (fun _ => 0))), (h56, .inl (aC 0, 13, .inl (fun _ => 0))), (h58, .inl (aC 0, 52, .inl (fun _ => 0))), (h60, .inl (aC 3, 4, .inl (fun _ => 0)))] H := hP
  have hD : va_D A [(h1, .inr (11, [.int 0, x2, x3, x4, x5, x6, x7, x8, x9, x10, x11, x12, x13, x14, x15, x16, x17, x18, x19, x20, x21, x22, x23, x24, x25, x26, x27, x28, x29, x30, x31, x32, x33, x34, x35, x36, x37, x38, x39, x40, x41, x42, x43, x44, x45, x46, .ref h47, .ref h48, .ref h49, .ref h50, .ref h51, .ref h52, .ref h53, .ref h54, .ref h55, .ref h56, x57, .ref h58, x59, .ref h60, x61, x62, x63, x64, x65, x66, x67, x68, x69, x70, x71, x72, x73, x74])), (h47, .inl (aC 0, 6, .inl (fun _ => 0))), (h48, .inl (aC 0, 240, .inl (fun _ => 0))), (h49, .inl (aC 0, 240, .inl (fun _ => 0))), (h50, .inl (aC 0, 240, .inl (fun _ => 0))), (h51, .inl (aC 0, 240, .inl (fun _ => 0))), (h52, .inl (aC 0, 5, .inl (fun _ => 0))), (h53, .inl (aC 0, 40, .inl (fun _ => 0))), (h54, .inl (aC 0, 40, .inl (fun _ => 0))), (h55, .inl (aC 3, 40, .inl (fun _ => 0))), (h56, .inl (aC 0, 13, .inl (fun _ => 0))), (h58, .inl (aC 0, 52, .inl (fun _ => 0))), (h60, .inl (aC 3, 4, .inl (fun _ => 0)))] := hD
  refine lv_iload_n hx hb dX11_mark_5 rfl (lv_at hl 1 rfl) ?_
  refine lv_iconst (v := 0) hx hb dX11_mark_6 (by decide) ?_
  refine lv_iconst (v := 3) hx hb dX11_mark_7 (by decide) ?_
  refine goI (wr := [(h1, .inr (11, [.int 0, x2, x3, x4, x5, x6, x7, x8, x9, x10, x11, x12, x13, x14, x15, x16, x17, x18, x19, x20, x21, x22, x23, x24, x25, x26, x27, x28, x29, x30, x31, x32, x33, x34, x35, x36, x37, x38, x39, x40, x41, x42, x43, x44, x45, x46, .ref h47, .ref h48, .ref h49, .ref h50, .ref h51, .ref h52, .ref h53, .ref h54, .ref h55, .ref h56, x57, .ref h58, x59, .ref h60, x61, x62, x63, x64, x65, x66, x67, x68, x69, x70, x71, x72, x73, x74])), (h47, .inl (aC 0, 6, .inl (fun _ => 0))), (h48, .inl (aC 0, 240, .inl (fun _ => 0))), (h49, .inl (aC 0, 240, .inl (fun _ => 0))), (h50, .inl (aC 0, 240, .inl (fun _ => 0))), (h51, .inl (aC 0, 240, .inl (fun _ => 0))), (h52, .inl (aC 0, 5, .inl (fun _ => 0))), (h53, .inl (aC 0, 40, .inl (fun _ => 0))), (h54, .inl (aC 0, 40, .inl (fun _ => 0))), (h55, .inl (aC 3, 40, .inl (fun _ => 0))), (h56, .inl (aC 0, 13, .inl (fun _ => 0))), (h58, .inl (aC 0, 52, .inl (fun _ => 0))), (h60, .inl (aC 3, 4, .inl (fun _ => 0)))]) (runS (n := 3) (As := [.int 2, .int 0, .int 3]) (rest := []) F hP hD hS (a_X11_within_24 l g aC aM ) [] (by decide) rfl tb1511 tb1509 tb1510 tb17 ⟨by decide, by decide, by decide +kernel⟩ ⟨Nat.le_of_ble_eq_true rfl, Nat.le_of_ble_eq_true rfl⟩ rfl hl.1 rfl (Nat.le_of_ble_eq_true rfl) dX11_mark_8 ⟨Nat.le_of_ble_eq_true rfl, Nat.le_of_ble_eq_true rfl⟩) hP hD hS hA [] [0, 1, 2, 3, 4, 5, 6, 7, 8, 9, 10, 11, 12] rfl rfl (by decide) (by decide) (fun r_2 w3 H locs hw hP hD hS => ?_)
  have hP : va_P g vwCl [(h1, .inr (11, [.int 0, x2, x3, x4, x5, x6, x7, x8, x9, x10, x11, x12, x13, x14, x15, x16, x17, x18, x19, x20, x21, x22, x23, x24, x25, x26, x27, x28, x29, x30, x31, x32, x33, x34, x35, x36, x37, x38, x39, x40, x41, x42, x43, x44, x45, x46, .ref h47, .ref h48, .ref h49, .ref h50, .ref h51, .ref h52, .ref h53, .ref h54, .ref h55, .ref h56, x57, .ref h58, x59, .ref h60, x61, x62, x63, x64, x65, x66, x67, x68, x69, x70, x71, x72, x73, x74])), (h47, .inl (aC 0, 6, .inl (fun _ => 0))), (h48, .inl (aC 0, 240, .inl (fun _ => 0))), (h49, .inl (aC 0, 240, .inl (fun _ => 0))), (h50, .inl (aC 0, 240, .inl (fun _ => 0))), (h51, .inl (aC 0, 240, .inl (fun _ => 0))), (h52, .inl (aC 0, 5, .inl (fun _ => 0))), (h53, .inl (aC 0, 40, .inl (fun _ => 0))), (h54, .inl (aC 0, 40, .inl (fun _ => 0))), (h55, .inl (aC 3, 40, .inl (fun _ => 0))), (h56, .inl (aC 0, 13, .inl (fun _ => 0))), (h58, .inl (aC 0, 52, .inl (fun _ => 0))), (h60, .inl (aC 3, 4, .inl (fun _ => 0)))] H := hP
  have hD : va_D A [(h1, .inr (11, [.int 0, x2, x3, x4, x5, x6, x7, x8, x9, x10, x11, x12, x13, x14, x15, x16, x17, x18, x19, x20, x21, x22, x23, x24, x25, x26, x27, x28, x29, x30, x31, x32, x33, x34, x35, x36, x37, x38, x39, x40, x41, x42, x43, x44, x45, x46, .ref h47, .ref h48, .ref h49, .ref h50, .ref h51, .ref h52, .ref h53, .ref h54, .ref h55, .ref h56, x57, .ref h58, x59, .ref h60, x61, x62, x63, x64, x65, x66, x67, x68, x69, x70, x71, x72, x73, x74])), (h47, .inl (aC 0, 6, .inl (fun _ => 0))), (h48, .inl (aC 0, 240, .inl (fun _ => 0))), (h49, .inl (aC 0, 240, .inl (fun _ => 0))), (h50, .inl (aC 0, 240, .inl (fun _ => 0))), (h51, .inl (aC 0, 240, .inl (fun _ => 0))), (h52, .inl (aC 0, 5, .inl (fun _ => 0))), (h53, .inl (aC 0, 40, .inl (fun _ => 0))), (h54, .inl (aC 0, 40, .inl (fun _ => 0))), (h55, .inl (aC 3, 40, .inl (fun _ => 0))), (h56, .inl (aC 0, 13, .inl (fun _ => 0))), (h58, .inl (aC 0, 52, .inl (fun _ => 0))), (h60, .inl (aC 3, 4, .inl (fun _ => 0)))] := hD
  try dsimp only at hw
  subst hw
  refine lv_if_eq (tgt := 27) hx hb dX11_mark_11 (by decide) (fun c_ => absurd c_ (by decide +kernel)) (fun _ => ?_)
  refine lv_iload_n hx hb dX11_mark_14 rfl (lv_at hl 2 rfl) ?_
  refine lv_if_eq (tgt := 29) hx hb dX11_mark_15 (by decide) (fun c_ => absurd c_ (by decide +kernel)) (fun _ => ?_)
  refine lv_aload_n hx hb dX11_mark_18 rfl (lv_at hl 0 rfl) ?_
  refine xget F hP 0 rfl rfl inX11 59 (by decide) tb1241 rfl dX11_mark_19 ?_
  refine lv_iload_n hx hb dX11_mark_22 rfl (lv_at hl 1 rfl) ?_
  refine xzlo (v := 0) F hP 12 rfl 2 (by decide +kernel) (by decide +kernel) (by decide) (by decide +kernel) dX11_mark_23 ?_
  refine lv_if_ne (tgt := 29) hx hb dX11_mark_24 (by decide) (fun c_ => absurd (by decide +kernel) c_) (fun _ => ?_)
  refine lv_iconst (v := 0) hx hb dX11_mark_27 (by decide) ?_
  have hP9 := hP.sub (ws' := []) [] rfl
  have hD9 := hD.sub (ws' := []) [] (by decide) rfl
  exact rI () hx hb hr hlk rfl hS rfl hP9 hD9 (Nat.le_of_ble_eq_true rfl) (Nat.le_of_ble_eq_true rfl) dX11_mark_28

set_option maxHeartbeats 4000000 in
set_option maxRecDepth 100000 in
theorem m_mark_31 (l : Launch) (g : va_G) (aC : Nat → ClassId) (aM : Nat → Nat) (h1 h47 h48 h49 h50 h51 h52 h53 h54 h55 h56 h58 h60 : Nat) (x2 x3 x4 x5 x6 x7 x8 x9 x10 x11 x12 x13 x14 x15 x16 x17 x18 x19 x20 x21 x22 x23 x24 x25 x26 x27 x28 x29 x30 x31 x32 x33 x34 x35 x36 x37 x38 x39 x40 x41 x42 x43 x44 x45 x46 x57 x59 x61 x62 x63 x64 x65 x66 x67 x68 x69 x70 x71 x72 x73 x74 : Value) : Ct l g aC aM yX11_mark cX11_mark 5 (some .boolean) 2 [.ref h1, .int 3, .int 1] [(h1, .inr (11, [.int 0, x2, x3, x4, x5, x6, x7, x8, x9, x10, x11, x12, x13, x14, x15, x16, x17, x18, x19, x20, x21, x22, x23, x24, x25, x26, x27, x28, x29, x30, x31, x32, x33, x34, x35, x36, x37, x38, x39, x40, x41, x42, x43, x44, x45, x46, .ref h47, .ref h48, .ref h49, .ref h50, .ref h51, .ref h52, .ref h53, .ref h54, .ref h55, .ref h56, x57, .ref h58, x59, .ref h60, x61, x62, x63, x64, x65, x66, x67, x68, x69, x70, x71, x72, x73, x74])), (h47, .inl (aC 0, 6, .inl (fun _ => 0))), (h48, .inl (aC 0, 240, .inl (fun _ => 0))), (h49, .inl (aC 0, 240, .inl (fun _ => 0))), (h50, .inl (aC 0, 240, .inl (fun _ => 0))), (h51, .inl (aC 0, 240, .inl (fun _ => 0))), (h52, .inl (aC 0, 5, .inl (fun _ => 0))), (h53, .inl (aC 0, 40, .inl (fun _ => 0))), (h54, .inl (aC 0, 40, .inl (fun _ => 0))), (h55, .inl (aC 3, 40, .inl (fun _ => 0))), (h56, .inl (aC 0, 13, .inl (fun _ => 0))), (h58, .inl (aC 0, 52, .inl (fun _ => 0))), (h60, .inl (aC 3, 4, .inl (fun _ => 0)))] (QI g (fun (r : Int32) (_ : Unit) => r = 0) (fun (_ : Unit) => [])) 0 0 := by
  refine Ct.mk (by decide) (Nat.le_of_ble_eq_true rfl) ?_
  intro p e s m below meth c A ls hx hb hml hown hts hr hlk hnm hK hA hM hM2 hP hD hS hl
  have hown : s.vm.findClass RX11 = some m.cls := hown
  have F : Fx p s m _ c cX11_mark 5 RX11 g aC aM A := ⟨hx, hb, hml, hown, hts, hK, hA, hM, hM2⟩
  have hl : lv_has ls 5 [(0, .ref h1), (1, .int 3), (2, .int 1)] := hl
  refine lv_aload_n hx hb dX11_mark_0 rfl (lv_at hl 0 rfl) ?_
  refine lv_iconst (v := 0) hx hb dX11_mark_1 (by decide) ?_
  refine xput F hP hD hS 0 rfl rfl inX11 tyX11_ok nmX11 0 (by decide) tb1182 rfl rfl rfl (Nat.le_of_ble_eq_true rfl) dX11_mark_2 (fun H locs hP hD hS => ?_)
  have hP : va_P g vwCl [(h1, .inr (11, [.int 0, x2, x3, x4, x5, x6, x7, x8, x9, x10, x11, x12, x13, x14, x15, x16, x17, x18, x19, x20, x21, x22, x23, x24, x25, x26, x27, x28, x29, x30, x31, x32, x33, x34, x35, x36, x37, x38, x39, x40, x41, x42, x43, x44, x45, x46, .ref h47, .ref h48, .ref h49, .ref h50, .ref h51, .ref h52, .ref h53, .ref h54, .ref h55, .ref h56, x57, .ref h58, x59, .ref h60, x61, x62, x63, x64, x65, x66, x67, x68, x69, x70, x71, x72, x73, x74])), (h47, .inl (aC 0, 6, .inl (fun _ => 0))), (h48, .inl (aC 0, 240, .inl (fun _ => 0))), (h49, .inl (aC 0, 240, .inl (fun _ => 0))), (h50, .inl (aC 0, 240, .inl (fun _ => 0))), (h51, .inl (aC 0, 240, .inl (fun _ => 0))), (h52, .inl (aC 0, 5, .inl (fun _ => 0))), (h53, .inl (aC 0, 40, .inl (fun _ => 0))), (h54, .inl (aC 0, 40, .inl (fun _ => 0))), (h55, .inl (aC 3, 40, .inl (fun _ => 0))), (h56, .inl (aC 0, 13, .inl (fun _ => 0))), (h58, .inl (aC 0, 52, .inl (fun _ => 0))), (h60, .inl (aC 3, 4, .inl (fun _ => 0)))] H := hP
  have hD : va_D A [(h1, .inr (11, [.int 0, x2, x3, x4, x5, x6, x7, x8, x9, x10, x11, x12, x13, x14, x15, x16, x17, x18, x19, x20, x21, x22, x23, x24, x25, x26, x27, x28, x29, x30, x31, x32, x33, x34, x35, x36, x37, x38, x39, x40, x41, x42, x43, x44, x45, x46, .ref h47, .ref h48, .ref h49, .ref h50, .ref h51, .ref h52, .ref h53, .ref h54, .ref h55, .ref h56, x57, .ref h58, x59, .ref h60, x61, x62, x63, x64, x65, x66, x67, x68, x69, x70, x71, x72, x73, x74])), (h47, .inl (aC 0, 6, .inl (fun _ => 0))), (h48, .inl (aC 0, 240, .inl (fun _ => 0))), (h49, .inl (aC 0, 240, .inl (fun _ => 0))), (h50, .inl (aC 0, 240, .inl (fun _ => 0))), (h51, .inl (aC 0, 240, .inl (fun _ => 0))), (h52, .inl (aC 0, 5, .inl (fun _ => 0))), (h53, .inl (aC 0, 40, .inl (fun _ => 0))), (h54, .inl (aC 0, 40, .inl (fun _ => 0))), (h55, .inl (aC 3, 40, .inl (fun _ => 0))), (h56, .inl (aC 0, 13, .inl (fun _ => 0))), (h58, .inl (aC 0, 52, .inl (fun _ => 0))), (h60, .inl (aC 3, 4, .inl (fun _ => 0)))] := hD
  refine lv_iload_n hx hb dX11_mark_5 rfl (lv_at hl 1 rfl) ?_
  refine lv_iconst (v := 0) hx hb dX11_mark_6 (by decide) ?_
  refine lv_iconst (v := 3) hx hb dX11_mark_7 (by decide) ?_
  refine goI (wr := [(h1, .inr (11, [.int 0, x2, x3, x4, x5, x6, x7, x8, x9, x10, x11, x12, x13, x14, x15, x16, x17, x18, x19, x20, x21, x22, x23, x24, x25, x26, x27, x28, x29, x30, x31, x32, x33, x34, x35, x36, x37, x38, x39, x40, x41, x42, x43, x44, x45, x46, .ref h47, .ref h48, .ref h49, .ref h50, .ref h51, .ref h52, .ref h53, .ref h54, .ref h55, .ref h56, x57, .ref h58, x59, .ref h60, x61, x62, x63, x64, x65, x66, x67, x68, x69, x70, x71, x72, x73, x74])), (h47, .inl (aC 0, 6, .inl (fun _ => 0))), (h48, .inl (aC 0, 240, .inl (fun _ => 0))), (h49, .inl (aC 0, 240, .inl (fun _ => 0))), (h50, .inl (aC 0, 240, .inl (fun _ => 0))), (h51, .inl (aC 0, 240, .inl (fun _ => 0))), (h52, .inl (aC 0, 5, .inl (fun _ => 0))), (h53, .inl (aC 0, 40, .inl (fun _ => 0))), (h54, .inl (aC 0, 40, .inl (fun _ => 0))), (h55, .inl (aC 3, 40, .inl (fun _ => 0))), (h56, .inl (aC 0, 13, .inl (fun _ => 0))), (h58, .inl (aC 0, 52, .inl (fun _ => 0))), (h60, .inl (aC 3, 4, .inl (fun _ => 0)))]) (runS (n := 3) (As := [.int 3, .int 0, .int 3]) (rest := []) F hP hD hS (a_X11_within_25 l g aC aM ) [] (by decide) rfl tb1511 tb1509 tb1510 tb17 ⟨by decide, by decide, by decide +kernel⟩ ⟨Nat.le_of_ble_eq_true rfl, Nat.le_of_ble_eq_true rfl⟩ rfl hl.1 rfl (Nat.le_of_ble_eq_true rfl) dX11_mark_8 ⟨Nat.le_of_ble_eq_true rfl, Nat.le_of_ble_eq_true rfl⟩) hP hD hS hA [] [0, 1, 2, 3, 4, 5, 6, 7, 8, 9, 10, 11, 12] rfl rfl (by decide) (by decide) (fun r_2 w3 H locs hw hP hD hS => ?_)
  have hP : va_P g vwCl [(h1, .inr (11, [.int 0, x2, x3, x4, x5, x6, x7, x8, x9, x10, x11, x12, x13, x14, x15, x16, x17, x18, x19, x20, x21, x22, x23, x24, x25, x26, x27, x28, x29, x30, x31, x32, x33, x34, x35, x36, x37, x38, x39, x40, x41, x42, x43, x44, x45, x46, .ref h47, .ref h48, .ref h49, .ref h50, .ref h51, .ref h52, .ref h53, .ref h54, .ref h55, .ref h56, x57, .ref h58, x59, .ref h60, x61, x62, x63, x64, x65, x66, x67, x68, x69, x70, x71, x72, x73, x74])), (h47, .inl (aC 0, 6, .inl (fun _ => 0))), (h48, .inl (aC 0, 240, .inl (fun _ => 0))), (h49, .inl (aC 0, 240, .inl (fun _ => 0))), (h50, .inl (aC 0, 240, .inl (fun _ => 0))), (h51, .inl (aC 0, 240, .inl (fun _ => 0))), (h52, .inl (aC 0, 5, .inl (fun _ => 0))), (h53, .inl (aC 0, 40, .inl (fun _ => 0))), (h54, .inl (aC 0, 40, .inl (fun _ => 0))), (h55, .inl (aC 3, 40, .inl (fun _ => 0))), (h56, .inl (aC 0, 13, .inl (fun _ => 0))), (h58, .inl (aC 0, 52, .inl (fun _ => 0))), (h60, .inl (aC 3, 4, .inl (fun _ => 0)))] H := hP
  have hD : va_D A [(h1, .inr (11, [.int 0, x2, x3, x4, x5, x6, x7, x8, x9, x10, x11, x12, x13, x14, x15, x16, x17, x18, x19, x20, x21, x22, x23, x24, x25, x26, x27, x28, x29, x30, x31, x32, x33, x34, x35, x36, x37, x38, x39, x40, x41, x42, x43, x44, x45, x46, .ref h47, .ref h48, .ref h49, .ref h50, .ref h51, .ref h52, .ref h53, .ref h54, .ref h55, .ref h56, x57, .ref h58, x59, .ref h60, x61, x62, x63, x64, x65, x66, x67, x68, x69, x70, x71, x72, x73, x74])), (h47, .inl (aC 0, 6, .inl (fun _ => 0))), (h48, .inl (aC 0, 240, .inl (fun _ => 0))), (h49, .inl (aC 0, 240, .inl (fun _ => 0))), (h50, .inl (aC 0, 240, .inl (fun _ => 0))), (h51, .inl (aC 0, 240, .inl (fun _ => 0))), (h52, .inl (aC 0, 5, .inl (fun _ => 0))), (h53, .inl (aC 0, 40, .inl (fun _ => 0))), (h54, .inl (aC 0, 40, .inl (fun _ => 0))), (h55, .inl (aC 3, 40, .inl (fun _ => 0))), (h56, .inl (aC 0, 13, .inl (fun _ => 0))), (h58, .inl (aC 0, 52, .inl (fun _ => 0))), (h60, .inl (aC 3, 4, .inl (fun _ => 0)))] := hD
  try dsimp only at hw
  subst hw
  refine lv_if_eq (tgt := 27) hx hb dX11_mark_11 (by decide) (fun c_ => absurd c_ (by decide +kernel)) (fun _ => ?_)
  refine lv_iload_n hx hb dX11_mark_14 rfl (lv_at hl 2 rfl) ?_
  refine lv_if_eq (tgt := 29) hx hb dX11_mark_15 (by decide) (fun c_ => absurd c_ (by decide +kernel)) (fun _ => ?_)
  refine lv_aload_n hx hb dX11_mark_18 rfl (lv_at hl 0 rfl) ?_
  refine xget F hP 0 rfl rfl inX11 59 (by decide) tb1241 rfl dX11_mark_19 ?_
  refine lv_iload_n hx hb dX11_mark_22 rfl (lv_at hl 1 rfl) ?_
  refine xzlo (v := 0) F hP 12 rfl 3 (by decide +kernel) (by decide +kernel) (by decide) (by decide +kernel) dX11_mark_23 ?_
  refine lv_if_ne (tgt := 29) hx hb dX11_mark_24 (by decide) (fun c_ => absurd (by decide +kernel) c_) (fun _ => ?_)
  refine lv_iconst (v := 0) hx hb dX11_mark_27 (by decide) ?_
  have hP9 := hP.sub (ws' := []) [] rfl
  have hD9 := hD.sub (ws' := []) [] (by decide) rfl
  exact rI () hx hb hr hlk rfl hS rfl hP9 hD9 (Nat.le_of_ble_eq_true rfl) (Nat.le_of_ble_eq_true rfl) dX11_mark_28
