/-! the price of a flight on both sides, steal with its answer -/
section Zq8
variable {N t b : Nat} {s : Zs} {D : ZD} {S : ZS} {H : List ZS} {q : List Int}
theorem zC_a {n k : Nat} {as : List Zv} {s : Zs} {Q1 Q2 Q : Zr → Prop} (h1 : zC n k as s Q1) (h2 : zC n k as s Q2) (hq : ∀ p, Q1 p → Q2 p → Q p) : zC n k as s Q := fun a p ha hp => hq p (h1 a p ha hp) (h2 a p ha hp)
def clampP (v : Int) : Int := if v < 0 then 0 else if 999 < v then 999 else v
def prE (D : ZD) (S : ZS) (k : Nat) : Int × Int × Int := (colD D 12 k, sNi S, ((cnt D 1 : Nat) : Int) - ((bcn (sTh S) : Nat) : Int))
def prV (D : ZD) (S : ZS) (q : List Int) (k : Nat) : Int := clampP ((cEv (prE D S k) q []).headD 0)
theorem pcn_le (x : Nat) : bcn x ≤ 10 := Nat.le_trans (List.length_filter_le _ _) (Nat.le_of_eq List.length_range)
theorem clampP_b (v : Int) : 0 ≤ clampP v ∧ clampP v ≤ 999 := by
  unfold clampP
  split
  · decide
  · split
    · decide
    · omega
theorem prE_rg (hw : wD D) (hX : wX D) (hs : wS D S) {k : Nat} (hk : k < cnt D 1) : rgE (prE D S k) := by
  have h10 : cnt D 1 ≤ 10 := hw.1 1 (by omega)
  have r := rise_bd hw hX hk
  have b := pcn_le (sTh S)
  refine ⟨?_, ?_, ?_⟩
  · show -2147483648 ≤ colD D 12 k ∧ colD D 12 k ≤ 2147483647
    omega
  · exact hs.2.2.2.2.2
  · show -2147483648 ≤ ((cnt D 1 : Nat) : Int) - ((bcn (sTh S) : Nat) : Int) ∧ ((cnt D 1 : Nat) : Int) - ((bcn (sTh S) : Nat) : Int) ≤ 2147483647
    omega
theorem prR_v (h : prR s t q) {E : Int × Int × Int} (hE : rgE E) : ∃ v, cEv E q [] = [v] ∧ rgI v := by
  rcases h.2 with ⟨g, a, -⟩ | ⟨a, -⟩
  · obtain ⟨v, r, c, -⟩ := a.2 E hE
    exact ⟨v, c [] (by decide), r⟩
  · subst a
    exact ⟨E.1, rfl, hE.1⟩
theorem steals_okE (ht : t = 7 ∨ t = 43) (hb : isSt b = true) (hd : cDn s t D) (hw : wD D) (hX : wX D) (hS : cSt s b D S) (hs : wS D S) (ha : ∀ f : Nat, f < cnt D 1 → s (t + 35) f = ((abv D f : Nat) : Int)) (hq : prR s t q) {x : Int} : zC N 779 [((b : Int), 0), ((t : Int), 0), (x, 0)] s (fun r => (canS D S x → r.1 = [(prV D S q x.toNat, 0)] ∧ r.2 b 5 = w32 (s b 5 + prV D S q x.toNat)) ∧ (¬ canS D S x → r = ([((-1 : Int), 0)], s))) := by
  have h10 : cnt D 1 ≤ 10 := hw.1 1 (by omega)
  have hl := wS_lt hw hs
  have sb := st_b hb
  have no : ¬ canS D S x → (canS D S x → (([((-1 : Int), 0)], s) : Zr).1 = [(prV D S q x.toNat, 0)] ∧ (([((-1 : Int), 0)], s) : Zr).2 b 5 = w32 (s b 5 + prV D S q x.toNat)) ∧ (¬ canS D S x → (([((-1 : Int), 0)], s) : Zr) = ([((-1 : Int), 0)], s)) := fun h => ⟨fun q => absurd q h, fun _ => rfl⟩
  refine c_X6_steals (b_X6_steals_0 _ _ _ _ s ht hb (fun m _ => ?_))
  refine zC_q (isThere_ok ht hb hd hw hS hs) (fun r hr => ?_)
  subst hr
  refine b_X6_steals_6 _ _ _ _ _ s ht hb (fun g => no (fun q => by rw [if_pos (dcP_yes ⟨q.1, q.2.1, q.2.2.1⟩)] at g; omega)) (fun g m2 _ => ?_)
  have ex : 0 ≤ x ∧ x < cnt D 1 ∧ (sTh S).testBit x.toNat = true := Classical.byContradiction fun c => g (if_neg (by rw [dcP_no c]; decide))
  obtain ⟨k, rfl⟩ := Int.eq_ofNat_of_zero_le ex.1
  have hk : k < cnt D 1 := by omega
  have bk : 2 ^ k ≤ 2 ^ 9 := Nat.pow_le_pow_right (by decide) (by omega)
  have bk9 : 2 ^ 9 = 512 := by decide
  rw [hS.1, zshl_1 k (by omega)]
  refine zC_q (fromTop_ok ht hd hw ha (by omega) hl) (fun r hr => ?_)
  subst hr
  refine b_X6_steals_20 _ _ _ _ _ s ht hb (fun g2 m3 _ => ?_) (fun g2 => no (fun q => by rw [if_pos (dcP_yes ((frT1_one hw hk hl).mpr q.2.2.2))] at g2; omega))
  have ft : frT1 D (2 ^ k) (sTh S) := Classical.byContradiction fun c => g2 (if_neg (by rw [dcP_no c]; decide))
  have can : canS D S ((k : Nat) : Int) := ⟨ex.1, ex.2.1, ex.2.2, (frT1_one hw hk hl).mp ft⟩
  rw [hS.1]
  refine zC_q (bits_ok hl) (fun r hr => ?_)
  subst hr
  refine b_X6_steals_38 _ _ _ _ _ _ s ht hb (fun m4 _ => ?_)
  have hc : s (t + 1) 1 = ((cnt D 1 : Nat) : Int) := hd.1 1 (by omega)
  have r2 : s (zrho (t + 12) (k : Int).toNat) 2 = colD D 12 k := by rw [Int.toNat_natCast, zrow1 ht (by omega)]; exact cDn_col hd hw (k := 1) (j := 2) (by omega) (by omega) (by decide) hk
  have bl := pcn_le (sTh S)
  rw [hc, r2, hS.2.2.2.2, w32_id (z := ((cnt D 1 : Nat) : Int) - ((bcn (sTh S) : Nat) : Int)) (by omega) (by omega)]
  obtain ⟨v, ev, rv⟩ := prR_v hq (prE_rg hw hX hs hk)
  refine zC_q (valueOf_ok (u := t + 29) (q := q) (v := v) (by omega) hq.1.1 hq.1.2.2 hq.1.2.1 ev) (fun r hr => ?_)
  obtain ⟨r1, s1⟩ := r
  obtain ⟨e, f1⟩ := hr
  have e : r1 = [(v, 0)] := e
  subst e
  have f1 : ∀ c j, c ≠ t + 29 + 2 → s1 c j = s c j := f1
  refine b_X6_steals_60 _ _ _ _ _ s1 ht hb ?_
  have W : ∀ (v9 : Int) (s9 : Zs), v9 = prV D S q k → s9 b 5 = w32 (s1 b 5 + v9) → (canS D S ((k : Nat) : Int) → (([(v9, 0)], s9) : Zr).1 = [(prV D S q ((k : Nat) : Int).toNat, 0)] ∧ (([(v9, 0)], s9) : Zr).2 b 5 = w32 (s b 5 + prV D S q ((k : Nat) : Int).toNat)) ∧ (¬ canS D S ((k : Nat) : Int) → (([(v9, 0)], s9) : Zr) = ([((-1 : Int), 0)], s)) := fun v9 s9 h0 h1 => by
    refine ⟨fun _ => ?_, fun q => absurd can q⟩
    rw [Int.toNat_natCast]
    subst h0
    exact ⟨rfl, h1.trans (by rw [f1 b 5 (by omega)])⟩
  refine W _ _ ?_ ?_
  · show _ = clampP ((cEv (prE D S k) q []).headD 0)
    rw [ev]
    show _ = clampP v
    unfold clampP
    split <;> (try split) <;> (try split) <;> (try split) <;> omega
  · rw [zu_eq, zu_n (by omega)]
theorem steal_cE (ht : t = 7 ∨ t = 43) (e3 : s 0 3 = ((t : Nat) : Int)) (hd : cDn s t D) (hw : wD D) (hX : wX D) (ha : ∀ f : Nat, f < cnt D 1 → s (t + 35) f = ((abv D f : Nat) : Int)) (hS : cSt s 79 D S) (hs : wS D S) (hq : prR s t q) (hH : cHi s D H) {x : Int} : zC N 1315 [(((0 : Nat) : Int), 0), (x, 0)] s (fun r => (canS D S x → r.1 = [(prV D S q x.toNat, 0)]) ∧ (¬ canS D S x → r.1 = [(-1, 0)])) := by
  refine c_X10_steal (b_X10_steal_0 _ _ s ht (fun m _ => ?_))
  refine zC_q (copy_ok ht (b := 82) (d := 79) rfl rfl (by decide)) (fun r hr => ?_)
  obtain ⟨r1, s1⟩ := r
  obtain ⟨e, f1, cp⟩ := hr
  have e : r1 = [] := e
  subst e
  have f1 : ∀ c j, ¬ (82 ≤ c ∧ c ≤ 84) → s1 c j = s c j := fun c j hc => f1 c j (by omega)
  have S1 : cSt s1 79 D S := cSt_e hS (fun c j a b _ => f1 c j (by omega))
  have D1 : cDn s1 t D := cDn_e hd hw (fun c j hc => f1 c j (by omega))
  have T1 : cSt s1 82 D S := cp D S hw hS
  have H1 : cHi s1 D H := cHi_e hH (fun c j a b => f1 c j (by omega))
  have Q1 : prR s1 t q := prR_e hq (fun c j a => by unfold prcC at a; exact f1 c j (by omega))
  refine b_X10_steal_11 _ _ s1 ht (fun m2 _ => ?_)
  rw [f1 0 3 (by omega), e3]
  refine zC_a (steals_okE ht (b := 79) rfl D1 hw hX S1 hs (fun f hf => (f1 _ _ (by omega)).trans (ha f hf)) Q1) (steals_ok ht (b := 79) rfl D1 hw S1 hs (fun f hf => (f1 _ _ (by omega)).trans (ha f hf))) (fun r hr hr' => ?_)
  obtain ⟨r1, s2⟩ := r
  obtain ⟨y1, n1⟩ := hr
  by_cases can : canS D S x
  · obtain ⟨e, -⟩ := y1 can
    obtain ⟨-, -, f2⟩ := hr'.1 can
    have e : r1 = [(prV D S q x.toNat, 0)] := e
    subst e
    have f2 : ∀ c j, ¬ (79 ≤ c ∧ c ≤ 81) → c ≠ t + 31 → s2 c j = s1 c j := fun c j a b => f2 c j (by omega) b
    have pb := (clampP_b ((cEv (prE D S x.toNat) q []).headD 0)).1
    have pb : 0 ≤ prV D S q x.toNat := pb
    refine b_X10_steal_23 _ _ _ s2 ht (fun g => absurd g (by omega)) (fun g m3 _ => ?_)
    have T2 : cSt s2 82 D S := cSt_e T1 (fun c j a b _ => f2 c j (by omega) (by omega))
    have H2 : cHi s2 D H := cHi_e H1 (fun c j a b => f2 c j (by omega) (by omega))
    refine zC_q (keep_ok ht (d := 82) rfl (by omega) hw H2 T2) (fun r hr => ?_)
    obtain ⟨r1, s3⟩ := r
    obtain ⟨e, -⟩ := hr
    have e : r1 = [] := e
    subst e
    exact b_X10_steal_40 _ _ s3 ht ⟨fun _ => rfl, fun q => absurd can q⟩
  · have e := n1 can
    cases e
    exact b_X10_steal_23 _ _ _ s1 ht (fun g => ⟨fun q => absurd q can, fun _ => rfl⟩) (fun g => absurd rfl g)
/-- the price of a flight, the model -/
theorem priceOf_mE (hm : mT s D) (hw : wD D) (hX : wX D) (hS : mSt s 216 0 D S) (hs : wS D S) (hq : prR s t q) {k : Nat} (hk : k < cnt D 1) : zC N 1492 [(((172 : Nat) : Int), 0), ((k : Int), 0)] s (fun r => r.1 = [(prV D S q k, 0)] ∧ frW s r.2) := by
  have h10 : cnt D 1 ≤ 10 := hw.1 1 (by omega)
  have hl := wS_lt hw hs
  have bl := pcn_le (sTh S)
  have e0 : s 216 0 = ((sTh S : Nat) : Int) := hS.1
  have e11 : s 216 11 = sNi S := hS.2.2.2.2
  have hc : s 174 1 = ((cnt D 1 : Nat) : Int) := hm.1 1 (by omega)
  have r2 : s 182 (k : Int).toNat = colD D 12 k := by rw [Int.toNat_natCast]; exact mcol hm hw (k := 1) (j := 2) (by omega) (by omega) (by decide) (by decide) hk
  have rE := prE_rg hw hX hs hk
  have V : ∀ v, cEv (prE D S k) q [] = [v] → prV D S q k = clampP v := fun v ev => by
    show clampP ((cEv (prE D S k) q []).headD 0) = _
    rw [ev]
    rfl
  have W : ∀ (v v' : Int) (s' : Zs), cEv (prE D S k) q [] = [v] → v' = clampP v → frW s s' → (([(v', 0)], s') : Zr).1 = [(prV D S q k, 0)] ∧ frW s (([(v', 0)], s') : Zr).2 := fun v v' s' ev hv f => ⟨by rw [V v ev, ← hv], f⟩
  have tl : ¬ s 192 0 < s 193 0 → cEv (prE D S k) q [] = [colD D 12 k] := fun h => by
    rcases hq.2 with ⟨g, -, a, b1, b2, b3, -, -⟩ | ⟨a, -⟩
    · exact absurd (show s 192 0 < s 193 0 by omega) h
    · subst a
      rfl
  refine c_X11_priceOf (b_X11_priceOf_0 _ _ s (fun g h h' => ?_) (fun g h h' => ?_) (fun g h => ?_) (fun g m _ => ?_))
  · refine W _ _ _ (tl (by omega)) ?_ frW_rf
    rw [r2] at h h' ⊢
    unfold clampP
    rw [if_neg (by omega), if_neg (by omega)]
  · refine W _ _ _ (tl (by omega)) ?_ frW_rf
    rw [r2] at h h'
    unfold clampP
    rw [if_neg (by omega), if_pos (by omega)]
  · refine W _ _ _ (tl (by omega)) ?_ frW_rf
    rw [r2] at h
    unfold clampP
    rw [if_pos (by omega)]
  · rcases hq.2 with ⟨gg, sm, a, b1, b2, b3, b5, b4⟩ | ⟨-, a⟩
    case inr => exact absurd g a
    rw [e0, e11, r2]
    refine zC_q (bits_m hl) (fun r hr => ?_)
    subst hr
    refine b_X11_priceOf_67 _ _ _ _ _ (fun m2 _ => ?_)
    rw [hc, w32_id (z := ((cnt D 1 : Nat) : Int) - ((bcn (sTh S) : Nat) : Int)) (by omega) (by omega)]
    have f1 : ∀ c j, c ≠ 206 → zu (zu (zu s 206 1 (colD D 12 k)) 206 2 (sNi S)) 206 3 (((cnt D 1 : Nat) : Int) - ((bcn (sTh S) : Nat) : Int)) c j = s c j := fun c j a => by
      rw [zu_n (fun q => a q.1), zu_n (fun q => a q.1), zu_n (fun q => a q.1)]
    have ee : env (zu (zu (zu s 206 1 (colD D 12 k)) 206 2 (sNi S)) 206 3 (((cnt D 1 : Nat) : Int) - ((bcn (sTh S) : Nat) : Int))) = prE D S k := by
      unfold env prE
      rw [zu_n (by omega), zu_n (by omega), zu_eq, zu_n (by omega), zu_eq, zu_eq]
    generalize zu (zu (zu s 206 1 (colD D 12 k)) 206 2 (sNi S)) 206 3 (((cnt D 1 : Nat) : Int) - ((bcn (sTh S) : Nat) : Int)) = s1 at f1 ee ⊢
    refine zC_q (worked_ok (dp := 0) (g := gg) (q := q) (a := a) ((f1 _ _ (by omega)).trans b1) ((f1 _ _ (by omega)).trans b2) (by omega) (fun i c hi => ⟨(f1 _ _ (by omega)).trans (b4 i c hi).1, (b4 i c hi).2⟩) sm (by rw [ee]; exact rE)) (fun r hr => ?_)
    obtain ⟨r1, s2⟩ := r
    obtain ⟨v, ev, -, e, f2⟩ := hr
    have e : r1 = [(v, 0)] := e
    subst e
    rw [ee] at ev
    have f : frW s s2 := fun c j hcj => (f2 c j (by omega)).trans (f1 c j (by omega))
    refine b_X11_priceOf_74 _ _ _ s2 (fun h h' => ?_) (fun h h' => ?_) (fun h => ?_)
    · refine W v _ s2 ev ?_ f
      unfold clampP
      rw [if_neg (by omega), if_neg (by omega)]
    · refine W v _ s2 ev ?_ f
      unfold clampP
      rw [if_neg (by omega), if_pos (by omega)]
    · refine W v _ s2 ev ?_ f
      unfold clampP
      rw [if_pos (by omega)]
theorem steals_mE (hm : mT s D) (hw : wD D) (hX : wX D) (hS : mSt s 216 0 D S) (hs : wS D S) (hq : prR s t q) {k : Nat} (hk : k < cnt D 1) : zC N 1514 [(((172 : Nat) : Int), 0), ((k : Int), 0)] s (fun r => r.1 = [(prV D S q k, 0)] ∧ r.2 216 12 = w32 (s 216 12 + prV D S q k)) := by
  refine c_X11_steals (b_X11_steals_0 _ _ s (fun m _ => ?_))
  refine zC_q (priceOf_mE hm hw hX hS hs hq hk) (fun r hr => ?_)
  obtain ⟨r1, s1⟩ := r
  obtain ⟨e, f1⟩ := hr
  have e : r1 = [(prV D S q k, 0)] := e
  subst e
  have f1 : frW s s1 := f1
  have W : ∀ s9 : Zs, s9 216 12 = w32 (s1 216 12 + prV D S q k) → (([(prV D S q k, 0)], s9) : Zr).1 = [(prV D S q k, 0)] ∧ (([(prV D S q k, 0)], s9) : Zr).2 216 12 = w32 (s 216 12 + prV D S q k) := fun s9 h => ⟨rfl, h.trans (by rw [f1 216 12 (by omega)])⟩
  exact b_X11_steals_5 _ _ _ s1 (W _ (by first | exact zu_eq _ _ _ _ | rw [zu_eq, zu_n (by omega)]))
theorem steal_mE (hw : wD D) (hX : wX D) (hA : mAll s D S H) (hs : wS D S) (hq : prR s t q) (ht : t = 7 ∨ t = 43) {x : Int} : zC N 1513 [(((172 : Nat) : Int), 0), (x, 0)] s (fun r => (canS D S x → r.1 = [(prV D S q x.toNat, 0)]) ∧ (¬ canS D S x → r.1 = [(-1, 0)])) := by
  have hc : s 174 1 = ((cnt D 1 : Nat) : Int) := hA.1.1 1 (by omega)
  have A0 := mAll_0 hw hA
  have no : ∀ s1 : Zs, ¬ canS D S x → (canS D S x → (([(-1, 0)], s1) : Zr).1 = [(prV D S q x.toNat, 0)]) ∧ (¬ canS D S x → (([(-1, 0)], s1) : Zr).1 = [(-1, 0)]) := fun s1 h => ⟨fun q => absurd q h, fun _ => rfl⟩
  refine c_X11_steal (b_X11_steal_0 _ s (fun g => no _ (fun q => by have := q.1; omega)) (fun g g2 => no _ (fun q => by have := q.2.1; omega)) (fun g g2 m _ => ?_))
  obtain ⟨k, rfl⟩ := Int.eq_ofNat_of_zero_le g
  have hk : k < cnt D 1 := by omega
  refine zC_q (canSteal_m A0.1 hw A0.2.1 hs hk) (fun r hr => ?_)
  subst hr
  refine b_X11_steal_18 _ _ _ (fun g3 m2 _ => ?_) (fun g3 => no _ (fun q => by rw [if_pos (dcP_yes q)] at g3; omega))
  have can : canS D S ((k : Nat) : Int) := Classical.byContradiction fun c => g3 (if_neg (by rw [dcP_no c]; decide))
  refine zC_q (keeps_ok hw A0.2.2 A0.2.1) (fun r hr => ?_)
  obtain ⟨r1, s1⟩ := r
  obtain ⟨e, H1, f1⟩ := hr
  have e : r1 = [] := e
  subst e
  have f1 : ∀ c j, ¬ (c = 172 ∧ j = 60) → c ≠ 219 → s1 c j = zu s 172 0 0 c j := f1
  refine b_X11_steal_27 _ s1 (fun m3 _ => ?_)
  have Q1 : prR s1 t q := prR_e hq (fun c j a => by unfold prcC at a; exact (f1 c j (by omega) (by omega)).trans (zu_n (by omega)))
  refine zC_q (steals_mE (mT_e (fun c j a b => f1 c j (by omega) (by omega)) A0.1) hw hX (mSt_e A0.2.1 (fun j => f1 _ _ (by omega) (by omega))) hs Q1 hk) (fun r hr => ?_)
  obtain ⟨r1, s2⟩ := r
  obtain ⟨e, -⟩ := hr
  have e : r1 = [(prV D S q k, 0)] := e
  subst e
  exact b_X11_steal_32 _ _ s2 ⟨fun _ => by rw [Int.toNat_natCast], fun q => absurd can q⟩
end Zq8
