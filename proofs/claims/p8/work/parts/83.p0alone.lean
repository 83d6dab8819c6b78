/-! alone -/
theorem b_X11_alone_0 {n : Nat} {Q : Zr → Prop} (x1 x2 x3 : Int) (s : Zs) 
    (h0 : ∀ (g2 : x1 < 0), Q ([((-1), 0)], zu s 172 0 0))
    (h1 : ∀ (g3 : 0 ≤ x1), ∀ (g4 : s 174 3 ≤ x1), Q ([((-1), 0)], zu s 172 0 0))
    (h2 : ∀ (g5 : 0 ≤ x1), ∀ (g6 : x1 < s 174 3), zT (zE 1410) (Pt PX11_alone) n (19, [((172 : Nat) : Int), x1, 0, 0], [], zu s 172 0 0) Q) : zT (zE 1410) (Pt PX11_alone) n (0, [((172 : Nat) : Int), x1, x2, x3], [], s) Q := by
  refine tL ((172 : Nat) : Int) 0 rfl rfl rfl ?_
  refine tK rfl ?_
  refine tPut 172 rfl rfl ?_
  refine tL ((172 : Nat) : Int) 0 rfl rfl rfl ?_
  refine tL x1 0 rfl rfl rfl ?_
  refine tCall [(((172 : Nat) : Int), 0), (x1, 0)] [] rfl rfl rfl (fun m1 l1 => c_X11_isPerson (b_X11_isPerson_0 x1 (zu s 172 0 0) ?_ ?_ ?_))
  · intro g2
    show zT (zE 1410) (Pt PX11_alone) m1 (10, [((172 : Nat) : Int), x1, x2, x3], [(0, 0)], zu s 172 0 0) Q
    refine tI1 rfl (fun g _ l => (absurd g (by decide))) (fun g _ l => zT_le ?_ (Nat.le_of_lt l))
    refine tK rfl ?_
    exact tR rfl (h0 g2)
  · intro g3 g4
    show zT (zE 1410) (Pt PX11_alone) m1 (10, [((172 : Nat) : Int), x1, x2, x3], [(0, 0)], zu s 172 0 0) Q
    refine tI1 rfl (fun g _ l => (absurd g (by decide))) (fun g _ l => zT_le ?_ (Nat.le_of_lt l))
    refine tK rfl ?_
    exact tR rfl (h1 g3 g4)
  · intro g5 g6
    show zT (zE 1410) (Pt PX11_alone) m1 (10, [((172 : Nat) : Int), x1, x2, x3], [(1, 0)], zu s 172 0 0) Q
    refine tI1 rfl (fun g _ l => zT_le ?_ (Nat.le_of_lt l)) (fun g _ l => (absurd g (by decide)))
    refine tK rfl ?_
    refine tS [((172 : Nat) : Int), x1, 0, x3] rfl rfl ?_
    refine tK rfl ?_
    refine tS [((172 : Nat) : Int), x1, 0, 0] rfl rfl ?_
    exact zT_le (h2 g5 g6) (Nat.le_trans (Nat.le_of_lt l1) (Nat.le_refl n))

theorem b_X11_alone_19 {n : Nat} {Q : Zr → Prop} (x1 x2 x3 : Int) (s : Zs) 
    (h0 : ∀ (g1 : s 174 1 ≤ x3), ∀ m, m < n → zC m 1445 [(((172 : Nat) : Int), 0), (x1, 0), (s 216 ((w32 (1 + x1)).toNat), 0), (s 216 0, 0)] s (fun p => zT (zE 1410) (Pt PX11_alone) m (106, [((172 : Nat) : Int), x1, x2, x3], p.1 ++ [], p.2) Q))
    (h1 : ∀ (g1 : x3 < s 174 1), ∀ (g3 : zand (zshr (s 216 0) x3) 1 ≠ 1), ∀ m, m < n → zT (zE 1410) (Pt PX11_alone) m (19, [((172 : Nat) : Int), x1, zor x2 0, w32 (x3 + 1)], [], s) Q)
    (h2 : ∀ (g1 : x3 < s 174 1), ∀ (g3 : zand (zshr (s 216 0) x3) 1 = 1), ∀ m, m < n → zC m 1445 [(((172 : Nat) : Int), 0), (x1, 0), (s 216 ((w32 (1 + x1)).toNat), 0), (zand (s 216 0) (zxor (zshl 1 x3) (-1)), 0)] s (fun p => zT (zE 1410) (Pt PX11_alone) m (69, [((172 : Nat) : Int), x1, x2, x3], p.1 ++ [(x2, 0)], p.2) Q)) : zT (zE 1410) (Pt PX11_alone) n (19, [((172 : Nat) : Int), x1, x2, x3], [], s) Q := by
  refine tL x3 0 rfl rfl rfl ?_
  refine tL ((172 : Nat) : Int) 0 rfl rfl rfl ?_
  refine tFR (c := 172) 174 rfl rfl rfl rfl rfl ?_
  refine tK rfl ?_
  refine tAv 174 1 (s 174 1) 0 rfl rfl rfl (by decide) rfl rfl ?_
  refine tJ3 rfl (fun g1 _ l1 => zT_le ?_ (Nat.le_of_lt l1)) (fun g1 _ l1 => zT_le ?_ (Nat.le_of_lt l1))
  · refine tL ((172 : Nat) : Int) 0 rfl rfl rfl ?_
    refine tL x1 0 rfl rfl rfl ?_
    refine tL ((172 : Nat) : Int) 0 rfl rfl rfl ?_
    refine tFR (c := 172) 216 rfl rfl rfl rfl rfl ?_
    refine tK rfl ?_
    refine tL x1 0 rfl rfl rfl ?_
    refine tB (v := w32 (1 + x1)) rfl rfl ?_
    refine tAv 216 ((w32 (1 + x1)).toNat) (s 216 ((w32 (1 + x1)).toNat)) 0 rfl rfl rfl (by decide) rfl rfl ?_
    refine tL ((172 : Nat) : Int) 0 rfl rfl rfl ?_
    refine tFR (c := 172) 216 rfl rfl rfl rfl rfl ?_
    refine tK rfl ?_
    refine tAv 216 0 (s 216 0) 0 rfl rfl rfl (by decide) rfl rfl ?_
    exact tCall [(((172 : Nat) : Int), 0), (x1, 0), (s 216 ((w32 (1 + x1)).toNat), 0), (s 216 0, 0)] [] rfl rfl rfl (fun m l => h0 g1 m (Nat.lt_of_lt_of_le l (Nat.le_refl n)))
  · refine tL x2 0 rfl rfl rfl ?_
    refine tL ((172 : Nat) : Int) 0 rfl rfl rfl ?_
    refine tFR (c := 172) 216 rfl rfl rfl rfl rfl ?_
    refine tK rfl ?_
    refine tAv 216 0 (s 216 0) 0 rfl rfl rfl (by decide) rfl rfl ?_
    refine tL x3 0 rfl rfl rfl ?_
    refine tB (v := zshr (s 216 0) x3) rfl rfl ?_
    refine tK rfl ?_
    refine tB (v := zand (zshr (s 216 0) x3) 1) rfl rfl ?_
    refine tK rfl ?_
    refine tJ1 rfl (fun g3 _ l3 => zT_le ?_ (Nat.le_of_lt l3)) (fun g3 _ l3 => zT_le ?_ (Nat.le_of_lt l3))
    · refine tK rfl ?_
      refine tB (v := zor x2 0) rfl rfl ?_
      refine tS [((172 : Nat) : Int), x1, zor x2 0, x3] rfl rfl ?_
      refine tInc [((172 : Nat) : Int), x1, zor x2 0, w32 (x3 + 1)] rfl rfl ?_
      exact tGb rfl (fun m2 l2 => h1 g1 g3 m2 (Nat.lt_of_lt_of_le l2 (Nat.le_refl n)))
    · refine tL ((172 : Nat) : Int) 0 rfl rfl rfl ?_
      refine tL x1 0 rfl rfl rfl ?_
      refine tL ((172 : Nat) : Int) 0 rfl rfl rfl ?_
      refine tFR (c := 172) 216 rfl rfl rfl rfl rfl ?_
      refine tK rfl ?_
      refine tL x1 0 rfl rfl rfl ?_
      refine tB (v := w32 (1 + x1)) rfl rfl ?_
      refine tAv 216 ((w32 (1 + x1)).toNat) (s 216 ((w32 (1 + x1)).toNat)) 0 rfl rfl rfl (by decide) rfl rfl ?_
      refine tL ((172 : Nat) : Int) 0 rfl rfl rfl ?_
      refine tFR (c := 172) 216 rfl rfl rfl rfl rfl ?_
      refine tK rfl ?_
      refine tAv 216 0 (s 216 0) 0 rfl rfl rfl (by decide) rfl rfl ?_
      refine tK rfl ?_
      refine tL x3 0 rfl rfl rfl ?_
      refine tB (v := zshl 1 x3) rfl rfl ?_
      refine tK rfl ?_
      refine tB (v := zxor (zshl 1 x3) (-1)) rfl rfl ?_
      refine tB (v := zand (s 216 0) (zxor (zshl 1 x3) (-1))) rfl rfl ?_
      exact tCall [(((172 : Nat) : Int), 0), (x1, 0), (s 216 ((w32 (1 + x1)).toNat), 0), (zand (s 216 0) (zxor (zshl 1 x3) (-1)), 0)] [(x2, 0)] rfl rfl rfl (fun m l => h2 g1 g3 m (Nat.lt_of_lt_of_le l (Nat.le_refl n)))

theorem b_X11_alone_106 {n : Nat} {Q : Zr → Prop} (x1 x2 x3 v0 : Int) (s : Zs) 
    (h0 : ∀ (g1 : v0 = 0), Q ([(x2, 0)], s))
    (h1 : ∀ (g1 : v0 ≠ 0), Q ([(0, 0)], s)) : zT (zE 1410) (Pt PX11_alone) n (106, [((172 : Nat) : Int), x1, x2, x3], [(v0, 0)], s) Q := by
  refine tI0 rfl (fun g1 _ l1 => zT_le ?_ (Nat.le_of_lt l1)) (fun g1 _ l1 => zT_le ?_ (Nat.le_of_lt l1))
  · refine tL x2 0 rfl rfl rfl ?_
    exact tR rfl (h0 g1)
  · refine tK rfl ?_
    refine tG rfl ?_
    exact tR rfl (h1 g1)

theorem b_X11_alone_69 {n : Nat} {Q : Zr → Prop} (x1 x2 x3 v0 y0 : Int) (s : Zs) 
    (h0 : ∀ (g1 : v0 = 0), ∀ m, m < n → zT (zE 1410) (Pt PX11_alone) m (19, [((172 : Nat) : Int), x1, zor y0 0, w32 (x3 + 1)], [], s) Q)
    (h1 : ∀ (g1 : v0 ≠ 0), ∀ m, m < n → zT (zE 1410) (Pt PX11_alone) m (19, [((172 : Nat) : Int), x1, zor y0 (zshl 1 x3), w32 (x3 + 1)], [], s) Q) : zT (zE 1410) (Pt PX11_alone) n (69, [((172 : Nat) : Int), x1, x2, x3], [(v0, 0), (y0, 0)], s) Q := by
  refine tI0 rfl (fun g1 _ l1 => zT_le ?_ (Nat.le_of_lt l1)) (fun g1 _ l1 => zT_le ?_ (Nat.le_of_lt l1))
  · refine tK rfl ?_
    refine tB (v := zor y0 0) rfl rfl ?_
    refine tS [((172 : Nat) : Int), x1, zor y0 0, x3] rfl rfl ?_
    refine tInc [((172 : Nat) : Int), x1, zor y0 0, w32 (x3 + 1)] rfl rfl ?_
    exact tGb rfl (fun m2 l2 => h0 g1 m2 (Nat.lt_of_lt_of_le l2 (Nat.le_refl n)))
  · refine tK rfl ?_
    refine tL x3 0 rfl rfl rfl ?_
    refine tB (v := zshl 1 x3) rfl rfl ?_
    refine tG rfl ?_
    refine tB (v := zor y0 (zshl 1 x3)) rfl rfl ?_
    refine tS [((172 : Nat) : Int), x1, zor y0 (zshl 1 x3), x3] rfl rfl ?_
    refine tInc [((172 : Nat) : Int), x1, zor y0 (zshl 1 x3), w32 (x3 + 1)] rfl rfl ?_
    exact tGb rfl (fun m2 l2 => h1 g1 m2 (Nat.lt_of_lt_of_le l2 (Nat.le_refl n)))

theorem c_X11_alone {n : Nat} {Q : Zr → Prop} {a0 a1 : Int} {s : Zs} (h : zT (zE 1410) (Pt PX11_alone) n (0, [a0, a1, 0, 0], [], s) Q) : zC n 1410 [(a0, 0), (a1, 0)] s Q := h

noncomputable def alB (D : ZD) (S : ZS) (p : Nat) : Nat → Bool := fun f => (sTh S).testBit f && cutB D S (ndf (sTh S) (2 ^ f)) p
noncomputable def alA (D : ZD) (S : ZS) (x : Int) : Int := if dcP (0 ≤ x ∧ x < cnt D 3) = true then (if cutB D S (sTh S) x.toNat = true then 0 else ((bset (alB D S x.toNat) (cnt D 1) : Nat) : Int)) else -1
section Zal
variable {N t : Nat} {s : Zs} {D : ZD} {S : ZS}
/-- a flight less, and yet there -/
theorem wok_less (hw : wD D) {T C f a b : Nat} (hT : T < 1024) (hf : f < 10) (h : wok D (T ||| C) a b) (hn : onW a b (lowN D f) → C.testBit f = true) : wok D (ndf T (2 ^ f) ||| C) a b := by
  refine ⟨h.1, h.2.1, fun q hq => ?_⟩
  obtain ⟨u1, u2⟩ := h.2.2 q hq
  refine ⟨u1, ?_⟩
  obtain ⟨v1, v2, v3, -⟩ := upF_get hw u1
  have p10 : 2 ^ f ≤ 2 ^ 10 := Nat.pow_le_pow_right (by decide) (by omega)
  have p11 : (2 : Nat) ^ 10 = 1024 := by decide
  rw [Nat.testBit_or, ndf_tb (by omega) (by omega), Nat.testBit_two_pow]
  rw [Nat.testBit_or] at u2
  by_cases e : (upF D q).toNat = f
  · rw [e] at v3 ⊢
    rw [hn (by rw [v3]; exact hq), Bool.or_true]
  · rw [decide_eq_false (show ¬ f = (upF D q).toNat from fun z => e z.symm), Bool.not_false, Bool.and_true]
    exact u2
theorem lk_eq (hw : wD D) (hX : wX D) (hs : wS D S) {p : Nat} (hp : p < cnt D 3) (h : wok D (sTh S ||| cli D S p (-1)) (sPe S p).toNat (colD D 33 p).toNat) : lkV D S p (sPe S p) = ((bset (alB D S p) (cnt D 1) : Nat) : Int) := by
  have cr := hX.2.2.2.2.2.2.2.2.1 _ (col_mem' hw (k := 3) (j := 3) (by omega) (by omega) (by decide) hp)
  have cr : plI D (colD D 33 p) := cr
  have px := hs.2.1 p hp
  have b1 := wS_lt hw hs
  have h10 : cnt D 1 ≤ 10 := hw.1 1 (by omega)
  have b2 : cli D S p (-1) < 1024 := bset_10 hw
  have b3 : waB D (sPe S p).toNat (colD D 33 p).toNat < 1024 := bset_10 hw
  have e : waV D (sPe S p) (colD D 33 p) = ((waB D (sPe S p).toNat (colD D 33 p).toNat : Nat) : Int) := if_pos (dcP_yes ⟨px, cr, fun q hq => (h.2.2 q hq).1⟩)
  have k : ndf (waB D (sPe S p).toNat (colD D 33 p).toNat) (cli D S p (-1)) = bset (alB D S p) (cnt D 1) := by
    refine bset_ext (Nat.lt_of_le_of_lt (ndf_le (by omega)) (bset_lt _ _)) (fun f hf => ?_)
    have w1 : (waB D (sPe S p).toNat (colD D 33 p).toNat).testBit f = decide (onW (sPe S p).toNat (colD D 33 p).toNat (lowN D f)) := by
      unfold waB
      rw [bset_tb, decide_eq_true hf, Bool.true_and]
    have p10 : 2 ^ f ≤ 2 ^ 10 := Nat.pow_le_pow_right (by decide) (by omega)
    have p11 : (2 : Nat) ^ 10 = 1024 := by decide
    rw [ndf_tb (by omega) (by omega), w1]
    show _ = ((sTh S).testBit f && cutB D S (ndf (sTh S) (2 ^ f)) p)
    by_cases c1 : onW (sPe S p).toNat (colD D 33 p).toNat (lowN D f)
    · rw [decide_eq_true c1, Bool.true_and]
      have o1 := (h.2.2 _ c1).2
      rw [upF_low hw hX hf, Int.toNat_natCast, Nat.testBit_or] at o1
      cases c2 : (cli D S p (-1)).testBit f with
      | true =>
        have e3 : cutB D S (ndf (sTh S) (2 ^ f)) p = false := dcP_no (fun z => z (wok_less hw b1 (by omega) h (fun _ => c2)))
        rw [e3, Bool.and_false]
        rfl
      | false =>
        rw [c2, Bool.or_false] at o1
        have e3 : cutB D S (ndf (sTh S) (2 ^ f)) p = true := dcP_yes (fun z => by
          have z2 := (z.2.2 _ c1).2
          rw [upF_low hw hX hf, Int.toNat_natCast, Nat.testBit_or, c2, Bool.or_false, ndf_tb (by omega) (by omega), Nat.testBit_two_pow, decide_eq_true rfl, Bool.not_true, Bool.and_false] at z2
          cases z2)
        rw [o1, e3]
        rfl
    · have e3 : cutB D S (ndf (sTh S) (2 ^ f)) p = false := dcP_no (fun z => z (wok_less hw b1 (by omega) h (fun q => absurd q c1)))
      rw [decide_eq_false c1, Bool.false_and, e3, Bool.and_false]
  unfold lkV
  rw [e, zandn (by omega), k]
theorem alone_c (ht : t = 7 ∨ t = 43) (e3 : s 0 3 = ((t : Nat) : Int)) (hd : cDn s t D) (hw : wD D) (hX : wX D) (hS : cSt s 79 D S) (hs : wS D S) {x : Int} : zC N 1282 [(((0 : Nat) : Int), 0), (x, 0)] s (fun r => r.1 = [(alA D S x, 0)]) := by
  refine c_X10_alone (b_X10_alone_0 _ _ s ht (fun m _ => ?_))
  rw [e3]
  refine zC_q (has_ok ht hd (k := 3) (by omega)) (fun r hr => ?_)
  subst hr
  refine b_X10_alone_9 _ _ _ s ht (fun g m2 _ => ?_) (fun g => ?_)
  rotate_left
  · show [((-1 : Int), 0)] = _
    unfold alA
    rw [if_neg (by rw [dcP_no (fun q => by rw [if_pos (dcP_yes q)] at g; omega)]; decide)]
  have c : 0 ≤ x ∧ x < cnt D 3 := Classical.byContradiction fun c => g (if_neg (by rw [dcP_no c]; decide))
  obtain ⟨k, rfl⟩ := Int.eq_ofNat_of_zero_le c.1
  have hk : k < cnt D 3 := by omega
  have np := plI_nat hw (hs.2.1 k hk)
  have ep : s 80 (k : Int).toNat = sPe S k := by rw [Int.toNat_natCast]; exact hS.2.1 k hk
  have b1 := wS_lt hw hs
  rw [e3, ep]
  refine zC_q (lack_ok ht (b := 79) rfl hd hw hX hS hk (by omega)) (fun r hr => ?_)
  subst hr
  have it := lk_iff (S := S) hw hX hk b1 (hs.2.1 k hk)
  have fin : alA D S (k : Int) = if cutB D S (sTh S) k = true then 0 else ((bset (alB D S k) (cnt D 1) : Nat) : Int) := by
    unfold alA
    rw [if_pos (dcP_yes c), Int.toNat_natCast]
  refine b_X10_alone_35 _ _ _ s ht (fun g2 => ?_) (fun g2 => ?_)
  all_goals rw [hS.1] at g2
  · show [((0 : Int), 0)] = _
    rw [fin, if_pos (show cutB D S (sTh S) k = true from dcP_yes (fun q => g2 (it.mpr q)))]
  · have ok := it.mp g2
    show [(lkV D S k (sPe S k), 0)] = _
    rw [fin, if_neg (by rw [show cutB D S (sTh S) k = false from dcP_no (fun q => q ok)]; decide), lk_eq hw hX hs hk ok]
theorem alone_m (hF : wF D) (hX : wX D) (hm : mT s D) (hw : wD D) (hS : mSt s 216 0 D S) (hs : wS D S) {x : Int} : zC N 1410 [(((172 : Nat) : Int), 0), (x, 0)] s (fun r => r.1 = [(alA D S x, 0)]) := by
  have hc : s 174 3 = ((cnt D 3 : Nat) : Int) := hm.1 3 (by omega)
  have no : ¬ (0 ≤ x ∧ x < cnt D 3) → [((-1 : Int), 0)] = [(alA D S x, 0)] := fun q => by
    unfold alA; rw [if_neg (by rw [dcP_no q]; decide)]
  refine c_X11_alone (b_X11_alone_0 _ _ _ s (fun g => no (fun q => by omega)) (fun g g2 => no (fun q => by omega)) (fun g g2 => ?_))
  obtain ⟨k, rfl⟩ := Int.eq_ofNat_of_zero_le g
  have hk : k < cnt D 3 := by omega
  have hm1 : mT (zu s 172 0 0) D := mT_e (fun c j a b => zu_n (by omega)) hm
  have hS1 : mSt (zu s 172 0 0) 216 0 D S := mSt_e hS (fun j => zu_n (by omega))
  generalize zu s 172 0 0 = s1 at hm1 hS1 ⊢
  have hc1 : s1 174 1 = ((cnt D 1 : Nat) : Int) := hm1.1 1 (by omega)
  have h10 : cnt D 1 ≤ 10 := hw.1 1 (by omega)
  have h5 : cnt D 3 ≤ 5 := hw.1 3 (by omega)
  have b1 := wS_lt hw hs
  have fin : alA D S (k : Int) = if cutB D S (sTh S) k = true then 0 else ((bset (alB D S k) (cnt D 1) : Nat) : Int) := by
    unfold alA
    rw [if_pos (dcP_yes ⟨g, by omega⟩), Int.toNat_natCast]
  have ep : ∀ _ : Unit, s1 216 ((w32 (1 + ((k : Nat) : Int))).toNat) = sPe S k := fun _ => by
    rw [w32_id (by omega) (by omega), show (1 + (k : Int)).toNat = 1 + k from by omega]
    have := hS1.2.1 k hk
    rw [Nat.zero_add] at this
    exact this
  have e0 : s1 216 0 = ((sTh S : Nat) : Int) := hS1.1
  have okD : ∀ th : Nat, (if dcP (wok D (th ||| cli D S k (-1)) (sPe S k).toNat (colD D 33 k).toNat) = true then (0 : Int) else 1) = 0 → cutB D S th k = false := fun th g5 => dcP_no (fun q => by
    rw [if_neg (by rw [dcP_no q]; decide)] at g5
    exact absurd g5 (by decide))
  have noD : ∀ th : Nat, (if dcP (wok D (th ||| cli D S k (-1)) (sPe S k).toNat (colD D 33 k).toNat) = true then (0 : Int) else 1) ≠ 0 → cutB D S th k = true := fun th g5 => dcP_yes (fun q => g5 (if_pos (dcP_yes q)))
  have loop : ∀ (M j : Nat), j ≤ cnt D 1 → zT (zE 1410) (Pt PX11_alone) M (19, [((172 : Nat) : Int), (k : Int), ((bset (alB D S k) j : Nat) : Int), (j : Int)], [], s1) (fun r => r.1 = [(alA D S (k : Int), 0)]) := by
    intro M
    induction M using Nat.strongRecOn with
    | ind M ih =>
      intro j hj
      have on : ∀ (m : Nat) (v : Int), m < M → j < cnt D 1 → v = ((bset (alB D S k) (j + 1) : Nat) : Int) → zT (zE 1410) (Pt PX11_alone) m (19, [((172 : Nat) : Int), (k : Int), v, w32 ((j : Int) + 1)], [], s1) (fun r => r.1 = [(alA D S (k : Int), 0)]) := fun m v hm' hj2 hv => by
        rw [hv, w32_id (by omega) (by omega), show (j : Int) + 1 = ((j + 1 : Nat) : Int) from by omega]
        exact ih m hm' (j + 1) (by omega)
      have b2 := bset_lt (alB D S k) j
      have b3 : 2 ^ j ≤ 2 ^ 10 := Nat.pow_le_pow_right (by decide) (by omega)
      have b4 : (2 : Nat) ^ 10 = 1024 := by decide
      have z0 : zor ((bset (alB D S k) j : Nat) : Int) 0 = ((bset (alB D S k) j : Nat) : Int) := (zor_nat (y := 0) (by omega) (by omega)).trans (by rw [Nat.or_zero])
      refine b_X11_alone_19 _ _ _ s1 (fun g3 m hm' => ?_) (fun g3 g4 m hm' => ?_) (fun g3 g4 m hm' => ?_)
      all_goals rw [hc1] at g3
      · have : j = cnt D 1 := by omega
        subst this
        rw [ep (), e0]
        refine zC_q (isCut_m hF hX hm1 hw hS1 hk hs.1 (hs.2.1 k hk)) (fun r hr => ?_)
        subst hr
        refine b_X11_alone_106 _ _ _ _ s1 (fun g5 => ?_) (fun g5 => ?_)
        · show [(((bset (alB D S k) (cnt D 1) : Nat) : Int), 0)] = _
          rw [fin, if_neg (by rw [okD _ g5]; decide)]
        · show [((0 : Int), 0)] = _
          rw [fin, if_pos (noD _ g5)]
      all_goals rw [e0] at g4
      · exact on m _ hm' (by omega) (by rw [z0, bset_no]; unfold alB; rw [Bool.eq_false_iff.mpr (fun q => g4 ((zbit1 (by omega) (by omega)).mpr q)), Bool.false_and])
      · have tb : (sTh S).testBit j = true := (zbit1 (by omega) (by omega)).mp g4
        have j2 : j < cnt D 1 := by omega
        rw [ep (), e0, zshl_1 j (by omega), zandn (by omega)]
        refine zC_q (isCut_m hF hX hm1 hw hS1 hk (Nat.lt_of_le_of_lt (ndf_le (by omega)) hs.1) (hs.2.1 k hk)) (fun r hr => ?_)
        subst hr
        refine b_X11_alone_69 _ _ _ _ _ s1 (fun g5 m2 hm2 => ?_) (fun g5 m2 hm2 => ?_)
        · exact on m2 _ (by omega) j2 (by rw [z0, bset_no]; unfold alB; rw [okD _ g5, Bool.and_false])
        · exact on m2 _ (by omega) j2 (bset_zor (by unfold alB; rw [tb, noD _ g5]; rfl) (by omega))
  exact loop N 0 (by omega)
end Zal
