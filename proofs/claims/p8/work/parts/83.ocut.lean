/-! who is cut off -/
theorem b_X10_fillLacks_0 {n : Nat} {Q : Zr → Prop} {t b : Nat} (x2 : Int) (s : Zs) (ht : t = 7 ∨ t = 43) (hb : isSt b = true)
    (h0 : zT (zE 1292) (Pt PX10_fillLacks) n (2, [((0 : Nat) : Int), ((b : Nat) : Int), 0], [], s) Q) : zT (zE 1292) (Pt PX10_fillLacks) n (0, [((0 : Nat) : Int), ((b : Nat) : Int), x2], [], s) Q := by
  refine tK rfl ?_
  refine tS [((0 : Nat) : Int), ((b : Nat) : Int), 0] rfl rfl ?_
  exact zT_le (h0) (Nat.le_refl n)

theorem b_X10_fillLacks_2 {n : Nat} {Q : Zr → Prop} {t b : Nat} (x2 : Int) (s : Zs) (ht : t = 7 ∨ t = 43) (hb : isSt b = true)
    (h0 : ∀ (g1 : s (zrho ((s 0 3).toNat) 0) 3 ≤ x2), Q ([], s))
    (h1 : ∀ (g1 : x2 < s (zrho ((s 0 3).toNat) 0) 3), ∀ m, m < n → zC m 776 [(((b : Nat) : Int), 0), (s 0 3, 0), (x2, 0), (s (b + 1) x2.toNat, 0)] s (fun p => zT (zE 1292) (Pt PX10_fillLacks) m (35, [((0 : Nat) : Int), ((b : Nat) : Int), x2], p.1 ++ [(x2, 0), (((164 : Nat) : Int), 0)], p.2) Q)) : zT (zE 1292) (Pt PX10_fillLacks) n (2, [((0 : Nat) : Int), ((b : Nat) : Int), x2], [], s) Q := by
  refine tL x2 0 rfl rfl rfl ?_
  refine tL ((0 : Nat) : Int) 0 rfl rfl rfl ?_
  refine tFv (c := 0) (s 0 3) 0 rfl rfl rfl rfl rfl ?_
  refine tFR (c := (s 0 3).toNat) (zrho ((s 0 3).toNat) 0) rfl rfl rfl rfl rfl ?_
  refine tK rfl ?_
  refine tAv (zrho ((s 0 3).toNat) 0) 3 (s (zrho ((s 0 3).toNat) 0) 3) 0 rfl rfl rfl (by decide) rfl rfl ?_
  refine tJ3 rfl (fun g1 _ l1 => zT_le ?_ (Nat.le_of_lt l1)) (fun g1 _ l1 => zT_le ?_ (Nat.le_of_lt l1))
  · exact tR rfl (h0 g1)
  · refine tL ((0 : Nat) : Int) 0 rfl rfl rfl ?_
    refine tFR (c := 0) 164 rfl rfl rfl rfl rfl ?_
    refine tL x2 0 rfl rfl rfl ?_
    refine tL ((b : Nat) : Int) 0 rfl rfl rfl ?_
    refine tL ((0 : Nat) : Int) 0 rfl rfl rfl ?_
    refine tFv (c := 0) (s 0 3) 0 rfl rfl rfl rfl rfl ?_
    refine tL x2 0 rfl rfl rfl ?_
    refine tL ((b : Nat) : Int) 0 rfl rfl rfl ?_
    refine tFR (c := b) (b + 1) rfl rfl rfl rfl (zs6_1 hb) ?_
    refine tL x2 0 rfl rfl rfl ?_
    refine tAv (b + 1) x2.toNat (s (b + 1) x2.toNat) 0 rfl rfl rfl (by decide) rfl rfl ?_
    exact tCall [(((b : Nat) : Int), 0), (s 0 3, 0), (x2, 0), (s (b + 1) x2.toNat, 0)] [(x2, 0), (((164 : Nat) : Int), 0)] rfl rfl rfl (fun m l => h1 g1 m (Nat.lt_of_lt_of_le l (Nat.le_refl n)))

theorem b_X10_fillLacks_35 {n : Nat} {Q : Zr → Prop} {t b : Nat} (x2 v0 y0 : Int) (s : Zs) (ht : t = 7 ∨ t = 43) (hb : isSt b = true)
    (h0 : ∀ m, m < n → zT (zE 1292) (Pt PX10_fillLacks) m (2, [((0 : Nat) : Int), ((b : Nat) : Int), w32 (x2 + 1)], [], zu s 164 y0.toNat v0) Q) : zT (zE 1292) (Pt PX10_fillLacks) n (35, [((0 : Nat) : Int), ((b : Nat) : Int), x2], [(v0, 0), (y0, 0), (((164 : Nat) : Int), 0)], s) Q := by
  refine tAS 164 y0.toNat rfl rfl rfl (by decide) ?_
  refine tInc [((0 : Nat) : Int), ((b : Nat) : Int), w32 (x2 + 1)] rfl rfl ?_
  exact tGb rfl (fun m2 l2 => h0 m2 (Nat.lt_of_lt_of_le l2 (Nat.le_refl n)))

theorem c_X10_fillLacks {n : Nat} {Q : Zr → Prop} {a0 a1 : Int} {s : Zs} (h : zT (zE 1292) (Pt PX10_fillLacks) n (0, [a0, a1, 0], [], s) Q) : zC n 1292 [(a0, 0), (a1, 0)] s Q := h

theorem b_X10_cutBy_0 {n : Nat} {Q : Zr → Prop} {t : Nat} (x1 x2 x3 : Int) (s : Zs) (ht : t = 7 ∨ t = 43)
    (h0 : zT (zE 1289) (Pt PX10_cutBy) n (4, [((0 : Nat) : Int), x1, 0, 0], [], s) Q) : zT (zE 1289) (Pt PX10_cutBy) n (0, [((0 : Nat) : Int), x1, x2, x3], [], s) Q := by
  refine tK rfl ?_
  refine tS [((0 : Nat) : Int), x1, 0, x3] rfl rfl ?_
  refine tK rfl ?_
  refine tS [((0 : Nat) : Int), x1, 0, 0] rfl rfl ?_
  exact zT_le (h0) (Nat.le_refl n)

theorem b_X10_cutBy_4 {n : Nat} {Q : Zr → Prop} {t : Nat} (x1 x2 x3 : Int) (s : Zs) (ht : t = 7 ∨ t = 43)
    (h0 : ∀ (g1 : s (zrho ((s 0 3).toNat) 0) 3 ≤ x3), Q ([(x2, 0)], s))
    (h1 : ∀ (g1 : x3 < s (zrho ((s 0 3).toNat) 0) 3), ∀ (g2 : zand (s 164 x3.toNat) (zxor x1 (-1)) = 0), ∀ m, m < n → zT (zE 1289) (Pt PX10_cutBy) m (4, [((0 : Nat) : Int), x1, x2, w32 (x3 + 1)], [], s) Q)
    (h2 : ∀ (g1 : x3 < s (zrho ((s 0 3).toNat) 0) 3), ∀ (g2 : zand (s 164 x3.toNat) (zxor x1 (-1)) ≠ 0), ∀ m, m < n → zT (zE 1289) (Pt PX10_cutBy) m (4, [((0 : Nat) : Int), x1, zor x2 (zshl 1 x3), w32 (x3 + 1)], [], s) Q) : zT (zE 1289) (Pt PX10_cutBy) n (4, [((0 : Nat) : Int), x1, x2, x3], [], s) Q := by
  refine tL x3 0 rfl rfl rfl ?_
  refine tL ((0 : Nat) : Int) 0 rfl rfl rfl ?_
  refine tFv (c := 0) (s 0 3) 0 rfl rfl rfl rfl rfl ?_
  refine tFR (c := (s 0 3).toNat) (zrho ((s 0 3).toNat) 0) rfl rfl rfl rfl rfl ?_
  refine tK rfl ?_
  refine tAv (zrho ((s 0 3).toNat) 0) 3 (s (zrho ((s 0 3).toNat) 0) 3) 0 rfl rfl rfl (by decide) rfl rfl ?_
  refine tJ3 rfl (fun g1 _ l1 => zT_le ?_ (Nat.le_of_lt l1)) (fun g1 _ l1 => zT_le ?_ (Nat.le_of_lt l1))
  · refine tL x2 0 rfl rfl rfl ?_
    exact tR rfl (h0 g1)
  · refine tL ((0 : Nat) : Int) 0 rfl rfl rfl ?_
    refine tFR (c := 0) 164 rfl rfl rfl rfl rfl ?_
    refine tL x3 0 rfl rfl rfl ?_
    refine tAv 164 x3.toNat (s 164 x3.toNat) 0 rfl rfl rfl (by decide) rfl rfl ?_
    refine tL x1 0 rfl rfl rfl ?_
    refine tK rfl ?_
    refine tB (v := zxor x1 (-1)) rfl rfl ?_
    refine tB (v := zand (s 164 x3.toNat) (zxor x1 (-1))) rfl rfl ?_
    refine tI0 rfl (fun g2 _ l2 => zT_le ?_ (Nat.le_of_lt l2)) (fun g2 _ l2 => zT_le ?_ (Nat.le_of_lt l2))
    · refine tInc [((0 : Nat) : Int), x1, x2, w32 (x3 + 1)] rfl rfl ?_
      exact tGb rfl (fun m2 l2 => h1 g1 g2 m2 (Nat.lt_of_lt_of_le l2 (Nat.le_refl n)))
    · refine tL x2 0 rfl rfl rfl ?_
      refine tK rfl ?_
      refine tL x3 0 rfl rfl rfl ?_
      refine tB (v := zshl 1 x3) rfl rfl ?_
      refine tB (v := zor x2 (zshl 1 x3)) rfl rfl ?_
      refine tS [((0 : Nat) : Int), x1, zor x2 (zshl 1 x3), x3] rfl rfl ?_
      refine tInc [((0 : Nat) : Int), x1, zor x2 (zshl 1 x3), w32 (x3 + 1)] rfl rfl ?_
      exact tGb rfl (fun m2 l2 => h2 g1 g2 m2 (Nat.lt_of_lt_of_le l2 (Nat.le_refl n)))

theorem c_X10_cutBy {n : Nat} {Q : Zr → Prop} {a0 a1 : Int} {s : Zs} (h : zT (zE 1289) (Pt PX10_cutBy) n (0, [a0, a1, 0, 0], [], s) Q) : zC n 1289 [(a0, 0), (a1, 0)] s Q := h

theorem b_X10_cut_0 {n : Nat} {Q : Zr → Prop} {t : Nat} (s : Zs) (ht : t = 7 ∨ t = 43)
    (h0 : ∀ m, m < n → zC m 1292 [(((0 : Nat) : Int), 0), (((79 : Nat) : Int), 0)] s (fun p => zT (zE 1288) (Pt PX10_cut) m (8, [((0 : Nat) : Int)], p.1 ++ [], p.2) Q)) : zT (zE 1288) (Pt PX10_cut) n (0, [((0 : Nat) : Int)], [], s) Q := by
  refine tL ((0 : Nat) : Int) 0 rfl rfl rfl ?_
  refine tL ((0 : Nat) : Int) 0 rfl rfl rfl ?_
  refine tFR (c := 0) 79 rfl rfl rfl rfl rfl ?_
  exact tCall [(((0 : Nat) : Int), 0), (((79 : Nat) : Int), 0)] [] rfl rfl rfl (fun m l => h0 m (Nat.lt_of_lt_of_le l (Nat.le_refl n)))

theorem b_X10_cut_8 {n : Nat} {Q : Zr → Prop} {t : Nat} (s : Zs) (ht : t = 7 ∨ t = 43)
    (h0 : ∀ m, m < n → zC m 1289 [(((0 : Nat) : Int), 0), (s 79 0, 0)] s (fun p => zT (zE 1288) (Pt PX10_cut) m (19, [((0 : Nat) : Int)], p.1 ++ [], p.2) Q)) : zT (zE 1288) (Pt PX10_cut) n (8, [((0 : Nat) : Int)], [], s) Q := by
  refine tL ((0 : Nat) : Int) 0 rfl rfl rfl ?_
  refine tL ((0 : Nat) : Int) 0 rfl rfl rfl ?_
  refine tFR (c := 0) 79 rfl rfl rfl rfl rfl ?_
  refine tFv (c := 79) (s 79 0) 0 rfl rfl rfl rfl rfl ?_
  exact tCall [(((0 : Nat) : Int), 0), (s 79 0, 0)] [] rfl rfl rfl (fun m l => h0 m (Nat.lt_of_lt_of_le l (Nat.le_refl n)))

theorem b_X10_cut_19 {n : Nat} {Q : Zr → Prop} {t : Nat} (v0 : Int) (s : Zs) (ht : t = 7 ∨ t = 43)
    (h0 : Q ([(v0, 0)], s)) : zT (zE 1288) (Pt PX10_cut) n (19, [((0 : Nat) : Int)], [(v0, 0)], s) Q := by
  exact tR rfl (h0)

theorem c_X10_cut {n : Nat} {Q : Zr → Prop} {a0 : Int} {s : Zs} (h : zT (zE 1288) (Pt PX10_cut) n (0, [a0], [], s) Q) : zC n 1288 [(a0, 0)] s Q := h

theorem b_X10_alone_0 {n : Nat} {Q : Zr → Prop} {t : Nat} (x1 x2 : Int) (s : Zs) (ht : t = 7 ∨ t = 43)
    (h0 : ∀ m, m < n → zC m 1034 [(s 0 3, 0), (3, 0), (x1, 0)] s (fun p => zT (zE 1282) (Pt PX10_alone) m (9, [((0 : Nat) : Int), x1, x2], p.1 ++ [], p.2) Q)) : zT (zE 1282) (Pt PX10_alone) n (0, [((0 : Nat) : Int), x1, x2], [], s) Q := by
  refine tL ((0 : Nat) : Int) 0 rfl rfl rfl ?_
  refine tFv (c := 0) (s 0 3) 0 rfl rfl rfl rfl rfl ?_
  refine tK rfl ?_
  refine tL x1 0 rfl rfl rfl ?_
  exact tCall [(s 0 3, 0), (3, 0), (x1, 0)] [] rfl rfl rfl (fun m l => h0 m (Nat.lt_of_lt_of_le l (Nat.le_refl n)))

theorem b_X10_alone_9 {n : Nat} {Q : Zr → Prop} {t : Nat} (x1 x2 v0 : Int) (s : Zs) (ht : t = 7 ∨ t = 43)
    (h0 : ∀ (g1 : v0 ≠ 0), ∀ m, m < n → zC m 776 [(((79 : Nat) : Int), 0), (s 0 3, 0), (x1, 0), (s 80 x1.toNat, 0)] s (fun p => zT (zE 1282) (Pt PX10_alone) m (35, [((0 : Nat) : Int), x1, x2], p.1 ++ [], p.2) Q))
    (h1 : ∀ (g1 : v0 = 0), Q ([((-1), 0)], s)) : zT (zE 1282) (Pt PX10_alone) n (9, [((0 : Nat) : Int), x1, x2], [(v0, 0)], s) Q := by
  refine tI1 rfl (fun g1 _ l1 => zT_le ?_ (Nat.le_of_lt l1)) (fun g1 _ l1 => zT_le ?_ (Nat.le_of_lt l1))
  · refine tL ((0 : Nat) : Int) 0 rfl rfl rfl ?_
    refine tFR (c := 0) 79 rfl rfl rfl rfl rfl ?_
    refine tL ((0 : Nat) : Int) 0 rfl rfl rfl ?_
    refine tFv (c := 0) (s 0 3) 0 rfl rfl rfl rfl rfl ?_
    refine tL x1 0 rfl rfl rfl ?_
    refine tL ((0 : Nat) : Int) 0 rfl rfl rfl ?_
    refine tFR (c := 0) 79 rfl rfl rfl rfl rfl ?_
    refine tFR (c := 79) 80 rfl rfl rfl rfl rfl ?_
    refine tL x1 0 rfl rfl rfl ?_
    refine tAv 80 x1.toNat (s 80 x1.toNat) 0 rfl rfl rfl (by decide) rfl rfl ?_
    exact tCall [(((79 : Nat) : Int), 0), (s 0 3, 0), (x1, 0), (s 80 x1.toNat, 0)] [] rfl rfl rfl (fun m l => h0 g1 m (Nat.lt_of_lt_of_le l (Nat.le_refl n)))
  · refine tK rfl ?_
    exact tR rfl (h1 g1)

theorem b_X10_alone_35 {n : Nat} {Q : Zr → Prop} {t : Nat} (x1 x2 v0 : Int) (s : Zs) (ht : t = 7 ∨ t = 43)
    (h0 : ∀ (g1 : zand v0 (zxor (s 79 0) (-1)) ≠ 0), Q ([(0, 0)], s))
    (h1 : ∀ (g1 : zand v0 (zxor (s 79 0) (-1)) = 0), Q ([(v0, 0)], s)) : zT (zE 1282) (Pt PX10_alone) n (35, [((0 : Nat) : Int), x1, x2], [(v0, 0)], s) Q := by
  refine tS [((0 : Nat) : Int), x1, v0] rfl rfl ?_
  refine tL v0 0 rfl rfl rfl ?_
  refine tL ((0 : Nat) : Int) 0 rfl rfl rfl ?_
  refine tFR (c := 0) 79 rfl rfl rfl rfl rfl ?_
  refine tFv (c := 79) (s 79 0) 0 rfl rfl rfl rfl rfl ?_
  refine tK rfl ?_
  refine tB (v := zxor (s 79 0) (-1)) rfl rfl ?_
  refine tB (v := zand v0 (zxor (s 79 0) (-1))) rfl rfl ?_
  refine tI1 rfl (fun g1 _ l1 => zT_le ?_ (Nat.le_of_lt l1)) (fun g1 _ l1 => zT_le ?_ (Nat.le_of_lt l1))
  · refine tK rfl ?_
    exact tR rfl (h0 g1)
  · refine tL v0 0 rfl rfl rfl ?_
    refine tG rfl ?_
    exact tR rfl (h1 g1)

theorem c_X10_alone {n : Nat} {Q : Zr → Prop} {a0 a1 : Int} {s : Zs} (h : zT (zE 1282) (Pt PX10_alone) n (0, [a0, a1, 0], [], s) Q) : zC n 1282 [(a0, 0), (a1, 0)] s Q := h

theorem b_X11_cut_0 {n : Nat} {Q : Zr → Prop} (s : Zs) 
    (h0 : ∀ m, m < n → zC m 1430 [(((172 : Nat) : Int), 0), (s 216 0, 0)] (zu s 172 0 0) (fun p => zT (zE 1429) (Pt PX11_cut) m (15, [((172 : Nat) : Int)], p.1 ++ [], p.2) Q)) : zT (zE 1429) (Pt PX11_cut) n (0, [((172 : Nat) : Int)], [], s) Q := by
  refine tL ((172 : Nat) : Int) 0 rfl rfl rfl ?_
  refine tK rfl ?_
  refine tPut 172 rfl rfl ?_
  refine tL ((172 : Nat) : Int) 0 rfl rfl rfl ?_
  refine tL ((172 : Nat) : Int) 0 rfl rfl rfl ?_
  refine tFR (c := 172) 216 rfl rfl rfl rfl rfl ?_
  refine tK rfl ?_
  refine tAv 216 0 (s 216 0) 0 rfl rfl rfl (by decide) rfl rfl ?_
  exact tCall [(((172 : Nat) : Int), 0), (s 216 0, 0)] [] rfl rfl rfl (fun m l => h0 m (Nat.lt_of_lt_of_le l (Nat.le_refl n)))

theorem b_X11_cut_15 {n : Nat} {Q : Zr → Prop} (v0 : Int) (s : Zs) 
    (h0 : Q ([(v0, 0)], s)) : zT (zE 1429) (Pt PX11_cut) n (15, [((172 : Nat) : Int)], [(v0, 0)], s) Q := by
  exact tR rfl (h0)

theorem c_X11_cut {n : Nat} {Q : Zr → Prop} {a0 : Int} {s : Zs} (h : zT (zE 1429) (Pt PX11_cut) n (0, [a0], [], s) Q) : zC n 1429 [(a0, 0)] s Q := h

theorem zan2 {w : Int} {c o : Nat} : zand (zand w (zxor (c : Int) (-1))) (zxor (o : Int) (-1)) = zand w (zxor ((o ||| c : Nat) : Int) (-1)) := by
  unfold zand
  rw [zxn, zxn, zxn]
  show (BitVec.ofInt 32 ((BitVec.ofInt 32 w &&& ~~~ BitVec.ofNat 32 c).toInt) &&& ~~~ BitVec.ofNat 32 o).toInt = (BitVec.ofInt 32 w &&& ~~~ BitVec.ofNat 32 (o ||| c)).toInt
  rw [BitVec.ofInt_toInt]
  congr 1
  apply BitVec.eq_of_getLsbD_eq
  intro i hi
  rw [BitVec.getLsbD_and, BitVec.getLsbD_and, BitVec.getLsbD_and, BitVec.getLsbD_not, BitVec.getLsbD_not, BitVec.getLsbD_not, BitVec.getLsbD_ofNat, BitVec.getLsbD_ofNat, BitVec.getLsbD_ofNat, Nat.testBit_or]
  rw [decide_eq_true hi]
  cases (BitVec.ofInt 32 w).getLsbD i <;> cases c.testBit i <;> cases o.testBit i <;> rfl
noncomputable def lkV (D : ZD) (S : ZS) (p : Nat) (x : Int) : Int := zand (waV D x (colD D 33 p)) (zxor ((cli D S p (-1) : Nat) : Int) (-1))
noncomputable def cutB (D : ZD) (S : ZS) (th : Nat) (p : Nat) : Bool := dcP (¬ wok D (th ||| cli D S p (-1)) (sPe S p).toNat (colD D 33 p).toNat)
noncomputable def cuV (D : ZD) (S : ZS) (th : Nat) : Nat := bset (cutB D S th) (cnt D 3)
section Zcu
variable {N t b : Nat} {s : Zs} {D : ZD} {S : ZS}
theorem lk_iff (hw : wD D) (hX : wX D) {p th : Nat} (hp : p < cnt D 3) (hth : th < 1024) {x : Int} (hx : plI D x) : zand (lkV D S p x) (zxor (th : Int) (-1)) = 0 ↔ wok D (th ||| cli D S p (-1)) x.toNat (colD D 33 p).toNat := by
  have cr := hX.2.2.2.2.2.2.2.2.1 _ (col_mem' hw (k := 3) (j := 3) (by omega) (by omega) (by decide) hp)
  have cr : plI D (colD D 33 p) := cr
  have b2 : cli D S p (-1) < 1024 := bset_10 hw
  have b3 : th ||| cli D S p (-1) < 1024 := Nat.or_lt_two_pow (n := 10) hth b2
  unfold lkV
  rw [zan2, way_iff hw hX (by omega)]
  exact ⟨fun q => q.2.2, fun q => ⟨hx, cr, q⟩⟩
theorem fillLacks_c (ht : t = 7 ∨ t = 43) (hb : isSt b = true) (e3 : s 0 3 = ((t : Nat) : Int)) (hd : cDn s t D) (hw : wD D) (hX : wX D) (hS : cSt s b D S) (hs : wS D S) : zC N 1292 [(((0 : Nat) : Int), 0), ((b : Int), 0)] s (fun r => r.1 = [] ∧ (∀ c j, c ≠ 164 → r.2 c j = s c j) ∧ ∀ p, p < cnt D 3 → r.2 164 p = lkV D S p (sPe S p)) := by
  have h5 : cnt D 3 ≤ 5 := hw.1 3 (by omega)
  have sb := st_b hb
  have loop : ∀ (M k : Nat) (s1 : Zs), k ≤ cnt D 3 → (∀ c j, c ≠ 164 → s1 c j = s c j) → (∀ p, p < k → s1 164 p = lkV D S p (sPe S p)) → zT (zE 1292) (Pt PX10_fillLacks) M (2, [((0 : Nat) : Int), ((b : Nat) : Int), (k : Int)], [], s1) (fun r => r.1 = [] ∧ (∀ c j, c ≠ 164 → r.2 c j = s c j) ∧ ∀ p, p < cnt D 3 → r.2 164 p = lkV D S p (sPe S p)) := by
    intro M
    induction M using Nat.strongRecOn with
    | ind M ih =>
      intro k s1 hk f1 g1
      have D1 : cDn s1 t D := cDn_e hd hw (fun c j hc => f1 c j (by omega))
      have S1 : cSt s1 b D S := cSt_e hS (fun c j a b _ => f1 c j (by omega))
      have e31 : s1 0 3 = ((t : Nat) : Int) := (f1 _ _ (by omega)).trans e3
      have hc : s1 (zrho ((s1 0 3).toNat) 0) 3 = ((cnt D 3 : Nat) : Int) := by
        rw [e31, Int.toNat_natCast]
        have e1 : zrho t 0 = t + 1 := zt8_0 ht
        rw [e1]
        exact D1.1 3 (by omega)
      refine b_X10_fillLacks_2 _ s1 ht hb (fun g => ?_) (fun g m hm => ?_)
      · rw [hc] at g
        exact ⟨rfl, f1, fun p hp => g1 p (by omega)⟩
      rw [hc] at g
      have hk2 : k < cnt D 3 := by omega
      have np := plI_nat hw (hs.2.1 k hk2)
      rw [e31, Int.toNat_natCast, S1.2.1 k hk2]
      refine zC_q (lack_ok ht hb D1 hw hX S1 hk2 (by omega)) (fun r hr => ?_)
      subst hr
      refine b_X10_fillLacks_35 _ _ _ s1 ht hb (fun m2 hm2 => ?_)
      rw [w32_id (by omega) (by omega), show (k : Int) + 1 = ((k + 1 : Nat) : Int) from by omega, Int.toNat_natCast]
      refine ih m2 (by omega) (k + 1) _ (by omega) (fun c j hc => by rw [zu_n (fun q => hc q.1)]; exact f1 c j hc) (fun p hp => ?_)
      by_cases q : p = k
      · rw [q, zu_eq]; rfl
      · rw [zu_n (by omega)]; exact g1 p (by omega)
  exact c_X10_fillLacks (b_X10_fillLacks_0 _ s ht hb (loop N 0 s (by omega) (fun _ _ _ => rfl) (fun p hp => absurd hp (Nat.not_lt_zero p))))
theorem cutBy_c (ht : t = 7 ∨ t = 43) (e3 : s 0 3 = ((t : Nat) : Int)) (hd : cDn s t D) (hw : wD D) (hX : wX D) (hs : wS D S) (hl : ∀ p, p < cnt D 3 → s 164 p = lkV D S p (sPe S p)) {th : Nat} (hth : th < 1024) : zC N 1289 [(((0 : Nat) : Int), 0), ((th : Int), 0)] s (fun r => r = ([(((cuV D S th : Nat) : Int), 0)], s)) := by
  have h5 : cnt D 3 ≤ 5 := hw.1 3 (by omega)
  have hc : s (zrho ((s 0 3).toNat) 0) 3 = ((cnt D 3 : Nat) : Int) := by
    rw [e3, Int.toNat_natCast]
    have e1 : zrho t 0 = t + 1 := zt8_0 ht
    rw [e1]
    exact hd.1 3 (by omega)
  have loop : ∀ (M k : Nat), k ≤ cnt D 3 → zT (zE 1289) (Pt PX10_cutBy) M (4, [((0 : Nat) : Int), (th : Int), ((bset (cutB D S th) k : Nat) : Int), (k : Int)], [], s) (fun r => r = ([(((cuV D S th : Nat) : Int), 0)], s)) := by
    intro M
    induction M using Nat.strongRecOn with
    | ind M ih =>
      intro k hk
      have on : ∀ (m : Nat) (v : Int), m < M → k < cnt D 3 → v = ((bset (cutB D S th) (k + 1) : Nat) : Int) → zT (zE 1289) (Pt PX10_cutBy) m (4, [((0 : Nat) : Int), (th : Int), v, w32 ((k : Int) + 1)], [], s) (fun r => r = ([(((cuV D S th : Nat) : Int), 0)], s)) := fun m v hm hk2 hv => by
        rw [hv, w32_id (by omega) (by omega), show (k : Int) + 1 = ((k + 1 : Nat) : Int) from by omega]
        exact ih m hm (k + 1) (by omega)
      refine b_X10_cutBy_4 _ _ _ s ht (fun g => ?_) (fun g g2 m hm => ?_) (fun g g2 m hm => ?_)
      all_goals rw [hc] at g
      · have : k = cnt D 3 := by omega
        subst this
        rfl
      all_goals
        have hk2 : k < cnt D 3 := by omega
        rw [Int.toNat_natCast, hl k hk2] at g2
        have it := lk_iff (S := S) hw hX hk2 hth (hs.2.1 k hk2)
      · exact on m _ hm hk2 (by rw [bset_no (dcP_no (fun q => q (it.mp g2)))])
      · exact on m _ hm hk2 (bset_zor (dcP_yes (fun q => g2 (it.mpr q))) (by omega))
  exact c_X10_cutBy (b_X10_cutBy_0 _ _ _ s ht (loop N 0 (by omega)))
theorem cut_c (ht : t = 7 ∨ t = 43) (e3 : s 0 3 = ((t : Nat) : Int)) (hd : cDn s t D) (hw : wD D) (hX : wX D) (hS : cSt s 79 D S) (hs : wS D S) : zC N 1288 [(((0 : Nat) : Int), 0)] s (fun r => r.1 = [(((cuV D S (sTh S) : Nat) : Int), 0)]) := by
  refine c_X10_cut (b_X10_cut_0 s ht (fun m _ => ?_))
  refine zC_q (fillLacks_c ht (b := 79) rfl e3 hd hw hX hS hs) (fun r hr => ?_)
  obtain ⟨r1, s1⟩ := r
  obtain ⟨e, f1, g1⟩ := hr
  have e : r1 = [] := e
  subst e
  have f1 : ∀ c j, c ≠ 164 → s1 c j = s c j := f1
  refine b_X10_cut_8 s1 ht (fun m2 _ => ?_)
  rw [show s1 79 0 = ((sTh S : Nat) : Int) from (f1 _ _ (by omega)).trans hS.1]
  refine zC_q (cutBy_c ht ((f1 _ _ (by omega)).trans e3) (cDn_e hd hw (fun c j hc => f1 c j (by omega))) hw hX hs g1 (wS_lt hw hs)) (fun r hr => ?_)
  subst hr
  exact b_X10_cut_19 _ s1 ht rfl
/-- the model's -/
theorem opT_or {p th : Nat} (h : th < 2 ^ cnt D 1) : opT D S th p (-1) = th ||| cli D S p (-1) := by
  apply Nat.eq_of_testBit_eq
  intro i
  unfold opT cli
  rw [bset_tb, Nat.testBit_or, bset_tb]
  by_cases l : i < cnt D 1
  · rw [decide_eq_true l, Bool.true_and, Bool.true_and]
  · rw [decide_eq_false l, Bool.false_and, Bool.false_and, Bool.or_false]
    exact (Nat.testBit_lt_two_pow (Nat.lt_of_lt_of_le h (Nat.pow_le_pow_right (by decide) (by omega)))).symm
theorem isCut_m (hF : wF D) (hX : wX D) (hm : mT s D) (hw : wD D) (hS : mSt s 216 0 D S) {p th : Nat} (hp : p < cnt D 3) (hth : th < 2 ^ cnt D 1) {x : Int} (hx : plI D x) : zC N 1445 [(((172 : Nat) : Int), 0), ((p : Int), 0), (x, 0), ((th : Int), 0)] s (fun r => r = ([(if dcP (wok D (th ||| cli D S p (-1)) x.toNat (colD D 33 p).toNat) = true then 0 else 1, 0)], s)) := by
  have h10 : cnt D 1 ≤ 10 := hw.1 1 (by omega)
  have b10 : 2 ^ cnt D 1 ≤ 2 ^ 10 := Nat.pow_le_pow_right (by decide) h10
  have b11 : 2 ^ 10 = 1024 := by decide
  have rr : s 187 (p : Int).toNat = colD D 31 p := by rw [Int.toNat_natCast]; exact mcol hm hw (k := 3) (j := 1) (by omega) (by omega) (by decide) (by decide) hp
  have rw3 : s 189 (p : Int).toNat = colD D 33 p := by rw [Int.toNat_natCast]; exact mcol hm hw (k := 3) (j := 3) (by omega) (by omega) (by decide) (by decide) hp
  have cr := hX.2.2.2.2.2.2.2.2.1 _ (col_mem' hw (k := 3) (j := 3) (by omega) (by omega) (by decide) hp)
  have cr : plI D (colD D 33 p) := cr
  have nx := plI_nat hw hx
  have nw := plI_nat hw cr
  refine c_X11_isCut (b_X11_isCut_0 _ _ _ s (fun m _ => ?_))
  rw [rr]
  refine zC_q (climbs_m hm hw hX (fun i hi => by have := hS.2.2.1 i hi; rw [Nat.zero_add] at this; exact this) hp (by omega)) (fun r hr => ?_)
  subst hr
  refine b_X11_isCut_14 _ _ _ _ _ s (fun m2 _ => ?_)
  rw [nx.2.1]
  refine zC_q (spreads_m hm hw hF hX (bset_10 hw) nx.1) (fun r hr => ?_)
  obtain ⟨X, rfl, h2, h3⟩ := hr
  rw [opT_or hth] at h3
  rw [← nx.2.1]
  refine b_X11_isCut_17 _ _ _ _ s (fun g => ?_) (fun g => ?_)
  all_goals rw [rw3, nw.2.1] at g
  · rw [if_pos (dcP_yes ((h3 _).mp (Classical.byContradiction fun c => g ((zbit0 (by omega) (by omega)).mpr c))))]
  · rw [if_neg (by rw [dcP_no (fun q => (zbit0 (by omega) (by omega)).mp g ((h3 _).mpr q))]; decide)]
theorem cutBy_m (hF : wF D) (hX : wX D) (hm : mT s D) (hw : wD D) (hS : mSt s 216 0 D S) (hs : wS D S) {th : Nat} (hth : th < 2 ^ cnt D 1) : zC N 1430 [(((172 : Nat) : Int), 0), ((th : Int), 0)] s (fun r => r = ([(((cuV D S th : Nat) : Int), 0)], s)) := by
  have h5 : cnt D 3 ≤ 5 := hw.1 3 (by omega)
  have hc : s 174 3 = ((cnt D 3 : Nat) : Int) := hm.1 3 (by omega)
  have loop : ∀ (M k : Nat), k ≤ cnt D 3 → zT (zE 1430) (Pt PX11_cutBy) M (4, [((172 : Nat) : Int), (th : Int), ((bset (cutB D S th) k : Nat) : Int), (k : Int)], [], s) (fun r => r = ([(((cuV D S th : Nat) : Int), 0)], s)) := by
    intro M
    induction M using Nat.strongRecOn with
    | ind M ih =>
      intro k hk
      have b2 := bset_lt (cutB D S th) k
      have b3 : 2 ^ k ≤ 2 ^ 5 := Nat.pow_le_pow_right (by decide) (by omega)
      have b4 : 2 ^ 5 = 32 := by decide
      refine b_X11_cutBy_4 _ _ _ s (fun g => ?_) (fun g m hm' => ?_)
      all_goals rw [hc] at g
      · have : k = cnt D 3 := by omega
        subst this
        rfl
      have hk2 : k < cnt D 3 := by omega
      have e1 : w32 ((k : Int) + 1) = ((k + 1 : Nat) : Int) := by rw [w32_id (by omega) (by omega)]; omega
      have z0 : zor ((bset (cutB D S th) k : Nat) : Int) 0 = ((bset (cutB D S th) k : Nat) : Int) := (zor_nat (y := 0) (by omega) (by omega)).trans (by rw [Nat.or_zero])
      have ep : (w32 (1 + (k : Int))).toNat = 1 + k := by rw [w32_id (by omega) (by omega)]; omega
      have ek : s 216 (1 + k) = sPe S k := by
        have := hS.2.1 k hk2
        rw [Nat.zero_add] at this
        exact this
      rw [ep, ek]
      clear ep
      refine zC_q (isCut_m hF hX hm hw hS hk2 hth (hs.2.1 k hk2)) (fun r hr => ?_)
      subst hr
      refine b_X11_cutBy_29 _ _ _ _ _ s (fun g2 m2 hm2 => ?_) (fun g2 m2 hm2 => ?_)
      all_goals rw [e1]
      · have ok : wok D (th ||| cli D S k (-1)) (sPe S k).toNat (colD D 33 k).toNat := Classical.byContradiction fun c => by
          rw [if_neg (by rw [dcP_no c]; decide)] at g2
          exact absurd g2 (by decide)
        rw [z0, ← bset_no (p := cutB D S th) (k := k) (dcP_no (fun q => q ok))]
        exact ih m2 (by omega) (k + 1) (by omega)
      · have no : ¬ wok D (th ||| cli D S k (-1)) (sPe S k).toNat (colD D 33 k).toNat := fun c => g2 (if_pos (dcP_yes c))
        rw [bset_zor (p := cutB D S th) (k := k) (dcP_yes no) (by omega)]
        exact ih m2 (by omega) (k + 1) (by omega)
  exact c_X11_cutBy (b_X11_cutBy_0 _ _ _ s (loop N 0 (by omega)))
theorem cut_m (hF : wF D) (hX : wX D) (hm : mT s D) (hw : wD D) (hS : mSt s 216 0 D S) (hs : wS D S) : zC N 1429 [(((172 : Nat) : Int), 0)] s (fun r => r.1 = [(((cuV D S (sTh S) : Nat) : Int), 0)]) := by
  refine c_X11_cut (b_X11_cut_0 s (fun m _ => ?_))
  have e0 : s 216 0 = ((sTh S : Nat) : Int) := hS.1
  rw [e0]
  refine zC_q (cutBy_m hF hX (mT_e (fun c j a b => zu_n (by omega)) hm) hw (mSt_e hS (fun j => zu_n (by omega))) hs hs.1) (fun r hr => ?_)
  subst hr
  exact b_X11_cut_15 _ _ rfl
end Zcu
