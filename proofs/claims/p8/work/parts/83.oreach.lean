/-! reach -/
theorem b_X10_reach_0 {n : Nat} {Q : Zr → Prop} {t : Nat} (x1 x2 x3 x4 : Int) (s : Zs) (ht : t = 7 ∨ t = 43)
    (h0 : ∀ m, m < n → zC m 1034 [(s 0 3, 0), (3, 0), (x1, 0)] s (fun p => zT (zE 1310) (Pt PX10_reach) m (9, [((0 : Nat) : Int), x1, x2, x3, x4], p.1 ++ [], p.2) Q)) : zT (zE 1310) (Pt PX10_reach) n (0, [((0 : Nat) : Int), x1, x2, x3, x4], [], s) Q := by
  refine tL ((0 : Nat) : Int) 0 rfl rfl rfl ?_
  refine tFv (c := 0) (s 0 3) 0 rfl rfl rfl rfl rfl ?_
  refine tK rfl ?_
  refine tL x1 0 rfl rfl rfl ?_
  exact tCall [(s 0 3, 0), (3, 0), (x1, 0)] [] rfl rfl rfl (fun m l => h0 m (Nat.lt_of_lt_of_le l (Nat.le_refl n)))

theorem b_X10_reach_33 {n : Nat} {Q : Zr → Prop} {t : Nat} (x1 x2 x3 x4 : Int) (s : Zs) (ht : t = 7 ∨ t = 43)
    (h0 : ∀ (g1 : 30 ≤ x4), Q ([(x3, 0)], s))
    (h1 : ∀ (g1 : x4 < 30), ∀ m, m < n → zC m 1043 [(s 0 3, 0), (s 80 x1.toNat, 0), (x4, 0)] s (fun p => zT (zE 1310) (Pt PX10_reach) m (58, [((0 : Nat) : Int), x1, x2, x3, x4], p.1 ++ [], p.2) Q)) : zT (zE 1310) (Pt PX10_reach) n (33, [((0 : Nat) : Int), x1, x2, x3, x4], [], s) Q := by
  refine tL x4 0 rfl rfl rfl ?_
  refine tK rfl ?_
  refine tJ3 rfl (fun g1 _ l1 => zT_le ?_ (Nat.le_of_lt l1)) (fun g1 _ l1 => zT_le ?_ (Nat.le_of_lt l1))
  · refine tL x3 0 rfl rfl rfl ?_
    exact tR rfl (h0 g1)
  · refine tL ((0 : Nat) : Int) 0 rfl rfl rfl ?_
    refine tFv (c := 0) (s 0 3) 0 rfl rfl rfl rfl rfl ?_
    refine tL ((0 : Nat) : Int) 0 rfl rfl rfl ?_
    refine tFR (c := 0) 79 rfl rfl rfl rfl rfl ?_
    refine tFR (c := 79) 80 rfl rfl rfl rfl rfl ?_
    refine tL x1 0 rfl rfl rfl ?_
    refine tAv 80 x1.toNat (s 80 x1.toNat) 0 rfl rfl rfl (by decide) rfl rfl ?_
    refine tL x4 0 rfl rfl rfl ?_
    exact tCall [(s 0 3, 0), (s 80 x1.toNat, 0), (x4, 0)] [] rfl rfl rfl (fun m l => h1 g1 m (Nat.lt_of_lt_of_le l (Nat.le_refl n)))

theorem b_X10_reach_9 {n : Nat} {Q : Zr → Prop} {t : Nat} (x1 x2 x3 x4 v0 : Int) (s : Zs) (ht : t = 7 ∨ t = 43)
    (h0 : ∀ (g1 : v0 ≠ 0), ∀ m, m < n → zC m 778 [(((79 : Nat) : Int), 0), (s 0 3, 0), (x1, 0), ((-1), 0)] s (fun p => zT (zE 1310) (Pt PX10_reach) m (27, [((0 : Nat) : Int), x1, x2, x3, x4], p.1 ++ [], p.2) Q))
    (h1 : ∀ (g1 : v0 = 0), Q ([((-1), 0)], s)) : zT (zE 1310) (Pt PX10_reach) n (9, [((0 : Nat) : Int), x1, x2, x3, x4], [(v0, 0)], s) Q := by
  refine tI1 rfl (fun g1 _ l1 => zT_le ?_ (Nat.le_of_lt l1)) (fun g1 _ l1 => zT_le ?_ (Nat.le_of_lt l1))
  · refine tL ((0 : Nat) : Int) 0 rfl rfl rfl ?_
    refine tFR (c := 0) 79 rfl rfl rfl rfl rfl ?_
    refine tL ((0 : Nat) : Int) 0 rfl rfl rfl ?_
    refine tFv (c := 0) (s 0 3) 0 rfl rfl rfl rfl rfl ?_
    refine tL x1 0 rfl rfl rfl ?_
    refine tK rfl ?_
    exact tCall [(((79 : Nat) : Int), 0), (s 0 3, 0), (x1, 0), ((-1), 0)] [] rfl rfl rfl (fun m l => h0 g1 m (Nat.lt_of_lt_of_le l (Nat.le_refl n)))
  · refine tK rfl ?_
    exact tR rfl (h1 g1)

theorem b_X10_reach_58 {n : Nat} {Q : Zr → Prop} {t : Nat} (x1 x2 x3 x4 v0 : Int) (s : Zs) (ht : t = 7 ∨ t = 43)
    (h0 : ∀ (g1 : zand v0 (zxor x2 (-1)) ≠ 0), ∀ m, m < n → zT (zE 1310) (Pt PX10_reach) m (33, [((0 : Nat) : Int), x1, x2, x3, w32 (x4 + 1)], [], s) Q)
    (h1 : ∀ (g1 : zand v0 (zxor x2 (-1)) = 0), ∀ m, m < n → zT (zE 1310) (Pt PX10_reach) m (33, [((0 : Nat) : Int), x1, x2, zor x3 (zshl 1 x4), w32 (x4 + 1)], [], s) Q) : zT (zE 1310) (Pt PX10_reach) n (58, [((0 : Nat) : Int), x1, x2, x3, x4], [(v0, 0)], s) Q := by
  refine tL x2 0 rfl rfl rfl ?_
  refine tK rfl ?_
  refine tB (v := zxor x2 (-1)) rfl rfl ?_
  refine tB (v := zand v0 (zxor x2 (-1))) rfl rfl ?_
  refine tI1 rfl (fun g1 _ l1 => zT_le ?_ (Nat.le_of_lt l1)) (fun g1 _ l1 => zT_le ?_ (Nat.le_of_lt l1))
  · refine tInc [((0 : Nat) : Int), x1, x2, x3, w32 (x4 + 1)] rfl rfl ?_
    exact tGb rfl (fun m2 l2 => h0 g1 m2 (Nat.lt_of_lt_of_le l2 (Nat.le_refl n)))
  · refine tL x3 0 rfl rfl rfl ?_
    refine tK rfl ?_
    refine tL x4 0 rfl rfl rfl ?_
    refine tB (v := zshl 1 x4) rfl rfl ?_
    refine tB (v := zor x3 (zshl 1 x4)) rfl rfl ?_
    refine tS [((0 : Nat) : Int), x1, x2, zor x3 (zshl 1 x4), x4] rfl rfl ?_
    refine tInc [((0 : Nat) : Int), x1, x2, zor x3 (zshl 1 x4), w32 (x4 + 1)] rfl rfl ?_
    exact tGb rfl (fun m2 l2 => h1 g1 m2 (Nat.lt_of_lt_of_le l2 (Nat.le_refl n)))

theorem b_X10_reach_27 {n : Nat} {Q : Zr → Prop} {t : Nat} (x1 x2 x3 x4 v0 : Int) (s : Zs) (ht : t = 7 ∨ t = 43)
    (h0 : zT (zE 1310) (Pt PX10_reach) n (33, [((0 : Nat) : Int), x1, v0, 0, 0], [], s) Q) : zT (zE 1310) (Pt PX10_reach) n (27, [((0 : Nat) : Int), x1, x2, x3, x4], [(v0, 0)], s) Q := by
  refine tS [((0 : Nat) : Int), x1, v0, x3, x4] rfl rfl ?_
  refine tK rfl ?_
  refine tS [((0 : Nat) : Int), x1, v0, 0, x4] rfl rfl ?_
  refine tK rfl ?_
  refine tS [((0 : Nat) : Int), x1, v0, 0, 0] rfl rfl ?_
  exact zT_le (h0) (Nat.le_refl n)

theorem c_X10_reach {n : Nat} {Q : Zr → Prop} {a0 a1 : Int} {s : Zs} (h : zT (zE 1310) (Pt PX10_reach) n (0, [a0, a1, 0, 0, 0], [], s) Q) : zC n 1310 [(a0, 0), (a1, 0)] s Q := h

theorem b_X11_reach_0 {n : Nat} {Q : Zr → Prop} (x1 : Int) (s : Zs) 
    (h0 : ∀ (g2 : x1 < 0), Q ([((-1), 0)], zu s 172 0 0))
    (h1 : ∀ (g3 : 0 ≤ x1), ∀ (g4 : s 174 3 ≤ x1), Q ([((-1), 0)], zu s 172 0 0))
    (h2 : ∀ (g5 : 0 ≤ x1), ∀ (g6 : x1 < s 174 3), ∀ m, m < n → zC m 1495 [(((172 : Nat) : Int), 0), (x1, 0)] (zu s 172 0 0) (fun p => zT (zE 1494) (Pt PX11_reach) m (18, [((172 : Nat) : Int), x1], p.1 ++ [], p.2) Q)) : zT (zE 1494) (Pt PX11_reach) n (0, [((172 : Nat) : Int), x1], [], s) Q := by
  refine tL ((172 : Nat) : Int) 0 rfl rfl rfl ?_
  refine tK rfl ?_
  refine tPut 172 rfl rfl ?_
  refine tL ((172 : Nat) : Int) 0 rfl rfl rfl ?_
  refine tL x1 0 rfl rfl rfl ?_
  refine tCall [(((172 : Nat) : Int), 0), (x1, 0)] [] rfl rfl rfl (fun m1 l1 => c_X11_isPerson (b_X11_isPerson_0 x1 (zu s 172 0 0) ?_ ?_ ?_))
  · intro g2
    show zT (zE 1494) (Pt PX11_reach) m1 (10, [((172 : Nat) : Int), x1], [(0, 0)], zu s 172 0 0) Q
    refine tI0 rfl (fun g _ l => zT_le ?_ (Nat.le_of_lt l)) (fun g _ l => (absurd g (by decide)))
    refine tK rfl ?_
    exact tR rfl (h0 g2)
  · intro g3 g4
    show zT (zE 1494) (Pt PX11_reach) m1 (10, [((172 : Nat) : Int), x1], [(0, 0)], zu s 172 0 0) Q
    refine tI0 rfl (fun g _ l => zT_le ?_ (Nat.le_of_lt l)) (fun g _ l => (absurd g (by decide)))
    refine tK rfl ?_
    exact tR rfl (h1 g3 g4)
  · intro g5 g6
    show zT (zE 1494) (Pt PX11_reach) m1 (10, [((172 : Nat) : Int), x1], [(1, 0)], zu s 172 0 0) Q
    refine tI0 rfl (fun g _ l => (absurd g (by decide))) (fun g _ l => zT_le ?_ (Nat.le_of_lt l))
    refine tL ((172 : Nat) : Int) 0 rfl rfl rfl ?_
    refine tL x1 0 rfl rfl rfl ?_
    exact tCall [(((172 : Nat) : Int), 0), (x1, 0)] [] rfl rfl rfl (fun m l => h2 g5 g6 m (Nat.lt_of_lt_of_le l (Nat.le_trans (Nat.le_of_lt l1) (Nat.le_refl n))))

theorem b_X11_reach_18 {n : Nat} {Q : Zr → Prop} (x1 v0 : Int) (s : Zs) 
    (h0 : Q ([(v0, 0)], s)) : zT (zE 1494) (Pt PX11_reach) n (18, [((172 : Nat) : Int), x1], [(v0, 0)], s) Q := by
  refine tG rfl ?_
  exact tR rfl (h0)

theorem c_X11_reach {n : Nat} {Q : Zr → Prop} {a0 a1 : Int} {s : Zs} (h : zT (zE 1494) (Pt PX11_reach) n (0, [a0, a1], [], s) Q) : zC n 1494 [(a0, 0), (a1, 0)] s Q := h

noncomputable def reP (D : ZD) (S : ZS) (k : Nat) : Nat → Bool := fun q => dcP (wok D (opn D S k (-1)) (sPe S k).toNat q)
noncomputable def reA (D : ZD) (S : ZS) (x : Int) : Int := if dcP (0 ≤ x ∧ x < cnt D 3) = true then ((bset (reP D S x.toNat) 30 : Nat) : Int) else -1
section Zre3
variable {N t : Nat} {s : Zs} {D : ZD} {S : ZS}
theorem reach_c (ht : t = 7 ∨ t = 43) (e3 : s 0 3 = ((t : Nat) : Int)) (hd : cDn s t D) (hw : wD D) (hX : wX D) (hS : cSt s 79 D S) (hs : wS D S) {x : Int} : zC N 1310 [(((0 : Nat) : Int), 0), (x, 0)] s (fun r => r.1 = [(reA D S x, 0)]) := by
  refine c_X10_reach (b_X10_reach_0 _ _ _ _ s ht (fun m _ => ?_))
  rw [e3]
  refine zC_q (has_ok ht hd (k := 3) (by omega)) (fun r hr => ?_)
  subst hr
  refine b_X10_reach_9 _ _ _ _ _ s ht (fun g m2 _ => ?_) (fun g => ?_)
  rotate_left
  · show [((-1 : Int), 0)] = _
    unfold reA
    rw [if_neg (by rw [dcP_no (fun q => by rw [if_pos (dcP_yes q)] at g; omega)]; decide)]
  have c : 0 ≤ x ∧ x < cnt D 3 := Classical.byContradiction fun c => g (if_neg (by rw [dcP_no c]; decide))
  obtain ⟨k, rfl⟩ := Int.eq_ofNat_of_zero_le c.1
  have hk : k < cnt D 3 := by omega
  have np := plI_nat hw (hs.2.1 k hk)
  have ep : s 80 (k : Int).toNat = sPe S k := by rw [Int.toNat_natCast]; exact hS.2.1 k hk
  rw [e3]
  refine zC_q (open_ok ht (b := 79) rfl hd hw hX hS hs hk) (fun r hr => ?_)
  subst hr
  have fin : reA D S (k : Int) = ((bset (reP D S k) 30 : Nat) : Int) := by
    unfold reA
    rw [if_pos (dcP_yes c), Int.toNat_natCast]
  have loop : ∀ (M q : Nat), q ≤ 30 → zT (zE 1310) (Pt PX10_reach) M (33, [((0 : Nat) : Int), (k : Int), ((opn D S k (-1) : Nat) : Int), ((bset (reP D S k) q : Nat) : Int), (q : Int)], [], s) (fun r => r.1 = [(reA D S (k : Int), 0)]) := by
    intro M
    induction M using Nat.strongRecOn with
    | ind M ih =>
      intro q hq
      refine b_X10_reach_33 _ _ _ _ s ht (fun g2 => ?_) (fun g2 m3 hm3 => ?_)
      · have : q = 30 := by omega
        subst this
        rw [fin]
      rw [e3, ep]
      refine zC_q (way_ok ht hd hw hX (by omega) (by omega)) (fun r hr => ?_)
      subst hr
      have it := go_iff hw hX hs hk (w := -1) (y := (q : Int))
      rw [Int.toNat_natCast] at it
      have on : ∀ (m : Nat) (v : Int), m < M → v = ((bset (reP D S k) (q + 1) : Nat) : Int) → zT (zE 1310) (Pt PX10_reach) m (33, [((0 : Nat) : Int), (k : Int), ((opn D S k (-1) : Nat) : Int), v, w32 ((q : Int) + 1)], [], s) (fun r => r.1 = [(reA D S (k : Int), 0)]) := fun m v hm hv => by
        rw [hv, w32_id (by omega) (by omega), show (q : Int) + 1 = ((q + 1 : Nat) : Int) from by omega]
        exact ih m hm (q + 1) (by omega)
      refine b_X10_reach_58 _ _ _ _ _ s ht (fun g3 m4 hm4 => ?_) (fun g3 m4 hm4 => ?_)
      · refine on m4 _ (by omega) ?_
        have nz : ¬ wok D (opn D S k (-1)) (sPe S k).toNat q := fun z => by
          have z2 := z.2.1
          unfold isPN at z2
          have d1 : ((q : Nat) : Int) / 6 = ((q / 6 : Nat) : Int) := by omega
          have d2 : ((q : Nat) : Int) % 6 = ((q % 6 : Nat) : Int) := by omega
          refine g3 (it.mpr ⟨⟨by omega, ?_⟩, z⟩)
          rw [d1, d2]
          exact z2
        rw [bset_no (dcP_no nz)]
      · exact on m4 _ (by omega) (bset_zor (dcP_yes (it.mp g3).2) (by omega))
  exact b_X10_reach_27 _ _ _ _ _ s ht (loop m2 0 (by omega))
theorem reach_m (hF : wF D) (hX : wX D) (hm : mT s D) (hw : wD D) (hS : mSt s 216 0 D S) (hs : wS D S) {x : Int} : zC N 1494 [(((172 : Nat) : Int), 0), (x, 0)] s (fun r => r.1 = [(reA D S x, 0)]) := by
  have hc : s 174 3 = ((cnt D 3 : Nat) : Int) := hm.1 3 (by omega)
  have no : ¬ (0 ≤ x ∧ x < cnt D 3) → [((-1 : Int), 0)] = [(reA D S x, 0)] := fun q => by
    unfold reA; rw [if_neg (by rw [dcP_no q]; decide)]
  refine c_X11_reach (b_X11_reach_0 _ s (fun g => no (fun q => by omega)) (fun g g2 => no (fun q => by omega)) (fun g g2 m _ => ?_))
  obtain ⟨k, rfl⟩ := Int.eq_ofNat_of_zero_le g
  have hk : k < cnt D 3 := by omega
  refine zC_q (reachOf_m hF hX (mT_e (fun c j a b => zu_n (by omega)) hm) hw (mSt_e hS (fun j => zu_n (by omega))) hs hk) (fun r hr => ?_)
  obtain ⟨X, rfl, h2, h3⟩ := hr
  refine b_X11_reach_18 _ _ _ ?_
  show [((X : Int), 0)] = _
  unfold reA
  rw [if_pos (dcP_yes ⟨g, by omega⟩), Int.toNat_natCast]
  have e : X = bset (reP D S k) 30 := bset_ext (by rw [show (2 : Nat) ^ 30 = 1073741824 from by decide]; exact h2) (fun i _ => by
    rw [Bool.eq_iff_iff, h3 i]
    exact dcP_iff.symm)
  rw [e]
end Zre3
