/-! what is held between calls of the law, and each method called on both sides -/
def tldR (s : Zs) (t : Nat) (D : ZD) : Prop := (t = 7 ∨ t = 43) ∧ s 0 3 = ((t : Nat) : Int) ∧ s 0 4 = ((50 - t : Nat) : Int) ∧ cDn s t D ∧ wA D ∧ cDh s t D ∧ (∀ f : Nat, f < cnt D 1 → s (t + 35) f = ((abv D f : Nat) : Int)) ∧ (0 ≤ dHeap D ∧ dHeap D ≤ 999) ∧ s 174 5 = dHeap D ∧ (0 < cnt D 0 → s 174 6 = dWalk D ∧ 0 ≤ dWalk D ∧ dWalk D ≤ 60)
def wAll (D : ZD) (S : ZS) (H : List ZS) (K : Nat → Option ZS) : Prop := wS D S ∧ (∀ S', S' ∈ H → wS D S') ∧ ∀ m S', m < 4 → K m = some S' → wS D S'
def tape (s : Zs) : Prop := (∃ a, tpC s a ∧ tpM s a) ∧ ∀ i, i < 28 → s 3 i = enc 32 (KW i)
def zKp (s : Zs) (t : Nat) (D : ZD) (S : ZS) (H : List ZS) (K : Nat → Option ZS) : Prop := tape s ∧ tldR s t D ∧ wAll D S H K ∧ (cSt s 79 D S ∧ cHi s D H ∧ mkC s D K) ∧ mAll s D S H ∧ mkM s D K
def zK (s : Zs) : Prop := ∃ t D S H K, zKp s t D S H K
/-- the tape's cells -/
def basT (c j : Nat) : Prop := (c = 1 ∧ j = 0) ∨ (c = 2 ∧ j < 1000) ∨ (c = 3 ∧ j < 28) ∨ (c = 172 ∧ j = 1) ∨ (c = 173 ∧ j < 1000)
/-- the town's cells -/
def basD (c j : Nat) : Prop := (c = 0 ∧ (j = 3 ∨ j = 4)) ∨ (7 ≤ c ∧ c ≤ 78 ∧ c ≠ 37 ∧ c ≠ 38 ∧ c ≠ 73 ∧ c ≠ 74) ∨ (c = 174 ∧ (j = 5 ∨ j = 6))
theorem tape_e {s s' : Zs} (h : tape s) (e : ∀ c j, basT c j → s' c j = s c j) : tape s' := by
  obtain ⟨⟨a, ⟨p1, p2, p3⟩, q1, q2, q3⟩, k⟩ := h
  refine ⟨⟨a, ⟨?_, p2, fun i hi => ?_⟩, ?_, q2, fun i hi => ?_⟩, fun i hi => ?_⟩
  · rw [e _ _ (Or.inl ⟨rfl, rfl⟩)]; exact p1
  · rw [e _ _ (Or.inr (Or.inl ⟨rfl, by omega⟩))]; exact p3 i hi
  · rw [e _ _ (Or.inr (Or.inr (Or.inr (Or.inl ⟨rfl, rfl⟩))))]; exact q1
  · rw [e _ _ (Or.inr (Or.inr (Or.inr (Or.inr ⟨rfl, by omega⟩))))]; exact q3 i hi
  · rw [e _ _ (Or.inr (Or.inr (Or.inl ⟨rfl, hi⟩)))]; exact k i hi
theorem tldR_e {s s' : Zs} {t : Nat} {D : ZD} (h : tldR s t D) (e : ∀ c j, basD c j → s' c j = s c j) : tldR s' t D := by
  obtain ⟨ht, h3, h4, hd, hw, hh, ha, hb, h5, h6⟩ := h
  have eD : ∀ c j, t ≤ c → c ≤ t + 35 → c ≠ t + 30 → c ≠ t + 31 → s' c j = s c j := fun c j a b u v => e c j (Or.inr (Or.inl (by omega)))
  refine ⟨ht, (e _ _ (Or.inl ⟨rfl, Or.inl rfl⟩)).trans h3, (e _ _ (Or.inl ⟨rfl, Or.inr rfl⟩)).trans h4, cDn_e hd hw.1 (fun c j hc => eD c j (by omega) (by omega) (by omega) (by omega)), hw, ?_, fun f hf => (eD _ _ (by omega) (by omega) (by omega) (by omega)).trans (ha f hf), hb, (e _ _ (Or.inr (Or.inr ⟨rfl, Or.inl rfl⟩))).trans h5, fun q => ⟨(e _ _ (Or.inr (Or.inr ⟨rfl, Or.inr rfl⟩))).trans (h6 q).1, (h6 q).2⟩⟩
  obtain ⟨b1, b2, b3, b4⟩ := hh
  unfold cDh
  rw [eD _ _ (by omega) (by omega) (by omega) (by omega), eD _ _ (by omega) (by omega) (by omega) (by omega), eD _ _ (by omega) (by omega) (by omega) (by omega)]
  exact ⟨b1, b2, b3, b4⟩
/-- all that is held, cell by cell -/
def wcl : List Nat := ((List.range 150).filter fun c => decide (7 ≤ c ∧ c ≠ 37 ∧ c ≠ 38 ∧ c ≠ 73 ∧ c ≠ 74 ∧ c ≠ 79 ∧ ¬ (82 ≤ c ∧ c ≤ 87) ∧ c ≠ 137)) ++ [218, 219, 220]
theorem wcl_in {c : Nat} (h : (7 ≤ c ∧ c ≤ 149 ∧ c ≠ 37 ∧ c ≠ 38 ∧ c ≠ 73 ∧ c ≠ 74 ∧ c ≠ 79 ∧ ¬ (82 ≤ c ∧ c ≤ 87) ∧ c ≠ 137) ∨ (218 ≤ c ∧ c ≤ 220)) : c ∈ wcl := by
  rcases h with h | h
  · exact List.mem_append_left _ (List.mem_filter.mpr ⟨List.mem_range.mpr (by omega), decide_eq_true ⟨h.1, h.2.2⟩⟩)
  · refine List.mem_append_right _ ?_
    rcases (show c = 218 ∨ c = 219 ∨ c = 220 by omega) with rfl | rfl | rfl <;> decide
def mcl : Md := (List.range 18).map fun i => (174 + i, 0, hbf (174 + i))
def kML : Md := [(172, 60, 61), (216, 0, 12)]
def kCL : Md := [(0, 3, 5), (0, 11, 12), (1, 0, 1), (2, 0, 1000), (3, 0, 28), (79, 0, 1), (79, 3, 5), (172, 1, 2), (173, 0, 1000)]
def kAL : Md := kCL ++ kML ++ mcl
theorem kA_0 {c j : Nat} (h : (c = 0 ∧ (j = 3 ∨ j = 4 ∨ j = 11)) ∨ (c = 1 ∧ j = 0) ∨ (c = 2 ∧ j < 1000) ∨ (c = 3 ∧ j < 28) ∨ (c = 79 ∧ (j = 0 ∨ j = 3 ∨ j = 4)) ∨ (c = 172 ∧ (j = 1 ∨ j = 60)) ∨ (c = 173 ∧ j < 1000) ∨ (c = 216 ∧ j < 12)) : cov kAL c j := by
  rcases h with ⟨rfl, rfl | rfl | rfl⟩ | ⟨rfl, rfl⟩ | ⟨rfl, h⟩ | ⟨rfl, h⟩ | ⟨rfl, rfl | rfl | rfl⟩ | ⟨rfl, rfl | rfl⟩ | ⟨rfl, h⟩ | ⟨rfl, h⟩
  · exact ⟨(0, 3, 5), by decide, by decide⟩
  · exact ⟨(0, 3, 5), by decide, by decide⟩
  · exact ⟨(0, 11, 12), by decide, by decide⟩
  · exact ⟨(1, 0, 1), by decide, by decide⟩
  · exact ⟨(2, 0, 1000), by decide, rfl, Nat.zero_le _, h⟩
  · exact ⟨(3, 0, 28), by decide, rfl, Nat.zero_le _, h⟩
  · exact ⟨(79, 0, 1), by decide, by decide⟩
  · exact ⟨(79, 3, 5), by decide, by decide⟩
  · exact ⟨(79, 3, 5), by decide, by decide⟩
  · exact ⟨(172, 1, 2), by decide, by decide⟩
  · exact ⟨(172, 60, 61), by decide, by decide⟩
  · exact ⟨(173, 0, 1000), by decide, rfl, Nat.zero_le _, h⟩
  · exact ⟨(216, 0, 12), by decide, rfl, Nat.zero_le _, h⟩
theorem kA_m {c j : Nat} (h1 : 174 ≤ c) (h2 : c ≤ 191) (h3 : j < hbf c) : cov kAL c j := ⟨(c, 0, hbf c), List.mem_append_right _ (List.mem_map.mpr ⟨c - 174, List.mem_range.mpr (by omega), by rw [show 174 + (c - 174) = c by omega]⟩), rfl, Nat.zero_le _, h3⟩
def kpS (s s' : Zs) : Prop := (∀ c j, cov kAL c j → s' c j = s c j) ∧ ∀ c, c ∈ wcl → ∀ j, s' c j = s c j
def wtC (cs : List Nat) (md : Md) : Bool := md.all fun m => !cs.contains m.1
theorem wtC_ok {cs : List Nat} {md : Md} (h : wtC cs md = true) {c j : Nat} (hc : c ∈ cs) : ¬ cov md c j := by
  intro ⟨m, hm, m1, m2, m3⟩
  have := List.all_eq_true.mp h m hm
  rw [m1, Bool.not_eq_true', List.contains_eq_mem, decide_eq_false_iff_not] at this
  exact this hc
def wtK (md : Md) : Bool := wtB kAL md && wtC wcl md
theorem kp_fr {md : Md} {h h' : Ph} (hf : fr md h h') (hb : wtK md = true) : kpS (zH h) (zH h') := by
  unfold wtK at hb
  rw [Bool.and_eq_true] at hb
  exact ⟨fun c j hw => zH_wt hf hb.1 hw, fun c hc j => zH_fr hf (wtC_ok hb.2 hc)⟩
theorem mT_h {s s' : Zs} {D : ZD} (f : ∀ c j, 174 ≤ c → c ≤ 191 → j < hbf c → s' c j = s c j) (hw : wD D) (h : mT s D) : mT s' D := by
  obtain ⟨h1, h2, h3⟩ := h
  refine ⟨fun k hk => ?_, fun k i w hk hk1 hv => ?_, fun k j i v hk hj hv => ?_⟩
  · rw [f 174 k (by omega) (by omega) (show k < 7 by omega)]
    exact h1 k hk
  · have hb := mnc_b k
    have hi := (List.getElem?_eq_some_iff.mp hv).1
    have hl : (dN D k).length = cnt D k := by unfold cnt; rw [if_neg hk1]
    have hm := cnt_mnb hw hk
    rw [f _ _ (by omega) (by omega) (by rw [hbf_mnc hk hk1]; omega)]
    exact h2 k i w hk hk1 hv
  · have hb := mcc_b hk hj
    have hi := (List.getElem?_eq_some_iff.mp hv).1
    rw [dC_len hw hk hj] at hi
    have hm := cnt_mnb hw hk
    rw [f _ _ (by omega) (by omega) (by rw [hbf_mcc hk hj]; omega)]
    exact h3 k j i v hk hj hv
theorem mSt_12 {s s' : Zs} {D : ZD} {S : ZS} (hw : wD D) (h : mSt s 216 0 D S) (e : ∀ j, j < 12 → s' 216 j = s 216 j) : mSt s' 216 0 D S := by
  obtain ⟨a1, a2, a3, a4, a5⟩ := h
  have h5 : cnt D 3 ≤ 5 := hw.1 3 (by omega)
  have h4 : cnt D 2 ≤ 4 := hw.1 2 (by omega)
  exact ⟨by rw [e _ (by omega)]; exact a1, fun p hp => by rw [e _ (by omega)]; exact a2 p hp, fun p hp => by rw [e _ (by omega)]; exact a3 p hp, by rw [e _ (by omega)]; exact a4, by rw [e _ (by omega)]; exact a5⟩
theorem zKp_kp {s s' : Zs} {t : Nat} {D : ZD} {S : ZS} {H : List ZS} {K : Nat → Option ZS} (h : zKp s t D S H K) (e : kpS s s') : zKp s' t D S H K := by
  obtain ⟨h1, h2, h3, ⟨h4, h5, h6⟩, ⟨h7, h8, h9⟩, h10⟩ := h
  obtain ⟨e1, e2⟩ := e
  have hw := h2.2.2.2.2.1.1
  refine ⟨tape_e h1 (fun c j b => e1 c j (kA_0 (by unfold basT at b; omega))), tldR_e h2 (fun c j b => ?_), h3, ⟨?_, cHi_e h5 (fun c j a b => ?_), mkC_e h6 (e1 _ _ (kA_0 (by omega))) (fun c j a b => e2 c (wcl_in (by omega)) j)⟩, ⟨mT_h (fun c j a b d => e1 c j (kA_m a b d)) hw h7, mSt_12 hw h8 (fun j hj => e1 _ _ (kA_0 (by omega))), mHi_e hw h9 (e1 _ _ (kA_0 (by omega))) (fun j => e2 219 (wcl_in (by omega)) j)⟩, mkM_e hw h10 (fun j => e2 220 (wcl_in (by omega)) j) (fun j => e2 218 (wcl_in (by omega)) j)⟩
  · unfold basD at b
    by_cases q : c = 174
    · subst q
      exact e1 174 j (kA_m (by omega) (by omega) (show j < 7 by omega))
    · by_cases q0 : c = 0
      · exact e1 c j (kA_0 (by omega))
      · exact e2 c (wcl_in (by omega)) j
  · obtain ⟨a1, a2, a3, a4, a5⟩ := h4
    exact ⟨(e1 _ _ (kA_0 (by omega))).trans a1, fun p hp => (e2 80 (wcl_in (by omega)) p).trans (a2 p hp), fun p hp => (e2 81 (wcl_in (by omega)) p).trans (a3 p hp), (e1 _ _ (kA_0 (by omega))).trans a4, (e1 _ _ (kA_0 (by omega))).trans a5⟩
  · exact e2 c (wcl_in (by omega)) j
theorem zK_kp {s s' : Zs} (h : zK s) (e : kpS s s') : zK s' := by
  obtain ⟨t, D, S, H, K, w⟩ := h
  exact ⟨t, D, S, H, K, zKp_kp w e⟩
/-- a thing done on both sides -/
theorem zK_do {s s1 s2 : Zs} {t : Nat} {D : ZD} {S S' : ZS} {H H' : List ZS} {K : Nat → Option ZS} (h : zKp s t D S H K) (f1 : frDo t s s1) (c1 : cSt s1 79 D S') (c2 : cHi s1 D H') (m : mAll s2 D S' H') (f2 : mFr s1 s2) (w : wS D S') (wh : ∀ S'', S'' ∈ H' → wS D S'') : zKp s2 t D S' H' K := by
  obtain ⟨h1, h2, h3, ⟨h4, h5, h6⟩, h7, h10⟩ := h
  have ht := h2.1
  have hw := h2.2.2.2.2.1.1
  have g : ∀ c j, ¬ (79 ≤ c ∧ c ≤ 84) → ¬ (88 ≤ c ∧ c ≤ 136) → c ≠ t + 31 → ¬ (c = 172 ∧ (j = 0 ∨ j = 60)) → c ≠ 216 → c ≠ 219 → ¬ (195 ≤ c ∧ c ≤ 206) → s2 c j = s c j := fun c j a1 a2 a3 a4 a5 a6 a7 => (f2 c j a4 a5 a6 a7).trans (f1 c j a1 a2 a3)
  exact ⟨tape_e h1 (fun c j b => by unfold basT at b; exact g c j (by omega) (by omega) (by omega) (by omega) (by omega) (by omega) (by omega)), tldR_e h2 (fun c j b => by unfold basD at b; exact g c j (by omega) (by omega) (by omega) (by omega) (by omega) (by omega) (by omega)), ⟨w, wh, h3.2.2⟩, ⟨cSt_e c1 (fun c j a b _ => f2 c j (by omega) (by omega) (by omega) (by omega)), cHi_e c2 (fun c j a b => f2 c j (by omega) (by omega) (by omega) (by omega)), mkC_e h6 (g _ _ (by omega) (by omega) (by omega) (by omega) (by omega) (by omega) (by omega)) (fun c j a b => g c j (by omega) (by omega) (by omega) (by omega) (by omega) (by omega) (by omega))⟩, m, mkM_e hw h10 (fun j => g _ _ (by omega) (by omega) (by omega) (by omega) (by omega) (by omega) (by omega)) (fun j => g _ _ (by omega) (by omega) (by omega) (by omega) (by omega) (by omega) (by omega))⟩
theorem mem_take {S S' : ZS} {H : List ZS} {D : ZD} (w : wS D S) (wh : ∀ S'', S'' ∈ H → wS D S'') (h : S' ∈ (S :: H).take 16) : wS D S' := by
  rcases List.mem_cons.mp (List.mem_of_mem_take h) with rfl | h
  · exact w
  · exact wh _ h
theorem mAll_fr {s s1 : Zs} {t : Nat} {D : ZD} {S : ZS} {H : List ZS} (ht : t = 7 ∨ t = 43) (hw : wD D) (h : mAll s D S H) (f : frDo t s s1) : mAll s1 D S H := mAll_e hw h (fun c j a b => f c j (by omega) (by omega) (by omega)) (fun j => f _ _ (by omega) (by omega) (by omega)) (f _ _ (by omega) (by omega) (by omega)) (fun j => f _ _ (by omega) (by omega) (by omega))
def kJ (h : Ph) : Prop := hI HTw RGw 229 h ∧ Kp h ∧ zK (zH h)
theorem kJ_fr {h h' : Ph} (hk : kJ h) (hi : hI HTw RGw 229 h') (hf : fr [] h h') : kJ h' := ⟨hi, Kp_fr hk.2.1 hk.1 hi hf, by rw [zH_fr0 hf]; exact hk.2.2⟩
theorem zM_H {h : Ph} : zM (zH h) := fun j => if_pos rfl
theorem zv1 {v : Int32} {x : Int} {l : List Zv} (h : (some (Value.int v)).toList.map zvl = (x, 0) :: l) : v.toInt = x := by
  have h : [(v.toInt, 0)] = (x, 0) :: l := h
  cases h
  rfl
theorem i32_b (x : Int32) : x.toInt < 2147483648 := by have := x.toInt_lt; omega
theorem pr_flight {h : Ph} (x1 : Int32) (x2 : Int32) (hk : kJ h) : ∃ (v1 v2 : Int32) (h1 h2 : Ph), pm_Ex mtb (xsT 229) 229 2 1297 [.ref 0, .int x1, .int x2] h (some (.int v1)) h1 ∧ hI HTw RGw 229 h1 ∧ pm_Ex mtb (xsT 229) 229 2 1437 [.ref 172, .int x1, .int x2] h1 (some (.int v2)) h2 ∧ kJ h2 ∧ v1 = v2 := by
  obtain ⟨v1, h1, e1, i1, p1, f1⟩ := xq_flight x1 x2 hk.1 hk.2.1
  obtain ⟨v2, h2, e2, i2, p2, f2⟩ := mq_flight x1 x2 i1 p1
  obtain ⟨t, D, S, H, K, w⟩ := hk.2.2
  have w1 := zKp_kp w (kp_fr f1 (by decide +kernel))
  obtain ⟨-, ⟨ht, t3, -, hd, ⟨hw, hF, hX, -⟩, hh, ha, -, -, hk6⟩, w3, ⟨w4, -⟩, -⟩ := w
  obtain ⟨m7, m8, -⟩ := w1.2.2.2.2.1
  obtain ⟨-, g1⟩ := zC_run e1 (by decide +kernel) hk.2.1 (fun n => flight_c ht t3 hd hw w4 (x := x1.toInt) (y := x2.toInt))
  obtain ⟨-, k1⟩ := zC_run e2 (by decide +kernel) p1 (fun n => flight_m m7 hw m8 (x := x1.toInt) (y := x2.toInt))
  exact ⟨v1, v2, h1, h2, e1, i1, e2, ⟨i2, p2, t, D, S, H, K, zKp_kp w1 (kp_fr f2 (by decide +kernel))⟩, Int32.toInt_inj.mp ((zv1 g1).trans (zv1 k1).symm)⟩
theorem pr_person {h : Ph} (x1 : Int32) (x2 : Int32) (hk : kJ h) : ∃ (v1 v2 : Int32) (h1 h2 : Ph), pm_Ex mtb (xsT 229) 229 2 1307 [.ref 0, .int x1, .int x2] h (some (.int v1)) h1 ∧ hI HTw RGw 229 h1 ∧ pm_Ex mtb (xsT 229) 229 2 1488 [.ref 172, .int x1, .int x2] h1 (some (.int v2)) h2 ∧ kJ h2 ∧ v1 = v2 := by
  obtain ⟨v1, h1, e1, i1, p1, f1⟩ := xq_person x1 x2 hk.1 hk.2.1
  obtain ⟨v2, h2, e2, i2, p2, f2⟩ := mq_person x1 x2 i1 p1
  obtain ⟨t, D, S, H, K, w⟩ := hk.2.2
  have w1 := zKp_kp w (kp_fr f1 (by decide +kernel))
  obtain ⟨-, ⟨ht, t3, -, hd, ⟨hw, hF, hX, -⟩, hh, ha, -, -, hk6⟩, w3, ⟨w4, -⟩, -⟩ := w
  obtain ⟨m7, m8, -⟩ := w1.2.2.2.2.1
  obtain ⟨-, g1⟩ := zC_run e1 (by decide +kernel) hk.2.1 (fun n => person_c ht t3 hd hw w4 (x := x1.toInt) (y := x2.toInt))
  obtain ⟨-, k1⟩ := zC_run e2 (by decide +kernel) p1 (fun n => person_m m7 hw m8 (x := x1.toInt) (y := x2.toInt))
  exact ⟨v1, v2, h1, h2, e1, i1, e2, ⟨i2, p2, t, D, S, H, K, zKp_kp w1 (kp_fr f2 (by decide +kernel))⟩, Int32.toInt_inj.mp ((zv1 g1).trans (zv1 k1).symm)⟩
theorem pr_thing {h : Ph} (x1 : Int32) (hk : kJ h) : ∃ (v1 v2 : Int32) (h1 h2 : Ph), pm_Ex mtb (xsT 229) 229 2 1317 [.ref 0, .int x1] h (some (.int v1)) h1 ∧ hI HTw RGw 229 h1 ∧ pm_Ex mtb (xsT 229) 229 2 1519 [.ref 172, .int x1] h1 (some (.int v2)) h2 ∧ kJ h2 ∧ v1 = v2 := by
  obtain ⟨v1, h1, e1, i1, p1, f1⟩ := xq_thing x1 hk.1 hk.2.1
  obtain ⟨v2, h2, e2, i2, p2, f2⟩ := mq_thing x1 i1 p1
  obtain ⟨t, D, S, H, K, w⟩ := hk.2.2
  have w1 := zKp_kp w (kp_fr f1 (by decide +kernel))
  obtain ⟨-, ⟨ht, t3, -, hd, ⟨hw, hF, hX, -⟩, hh, ha, -, -, hk6⟩, w3, ⟨w4, -⟩, -⟩ := w
  obtain ⟨m7, m8, -⟩ := w1.2.2.2.2.1
  obtain ⟨-, g1⟩ := zC_run e1 (by decide +kernel) hk.2.1 (fun n => thing_c ht t3 hd w4 (x := x1.toInt))
  obtain ⟨-, k1⟩ := zC_run e2 (by decide +kernel) p1 (fun n => thing_m m7 hw m8 (x := x1.toInt))
  exact ⟨v1, v2, h1, h2, e1, i1, e2, ⟨i2, p2, t, D, S, H, K, zKp_kp w1 (kp_fr f2 (by decide +kernel))⟩, Int32.toInt_inj.mp ((zv1 g1).trans (zv1 k1).symm)⟩
theorem pr_reach {h : Ph} (x1 : Int32) (hk : kJ h) : ∃ (v1 v2 : Int32) (h1 h2 : Ph), pm_Ex mtb (xsT 229) 229 5 1310 [.ref 0, .int x1] h (some (.int v1)) h1 ∧ hI HTw RGw 229 h1 ∧ pm_Ex mtb (xsT 229) 229 4 1494 [.ref 172, .int x1] h1 (some (.int v2)) h2 ∧ kJ h2 ∧ v1 = v2 := by
  obtain ⟨v1, h1, e1, i1, p1, f1⟩ := xq_reach x1 hk.1 hk.2.1
  obtain ⟨v2, h2, e2, i2, p2, f2⟩ := mq_reach x1 i1 p1
  obtain ⟨t, D, S, H, K, w⟩ := hk.2.2
  have w1 := zKp_kp w (kp_fr f1 (by decide +kernel))
  obtain ⟨-, ⟨ht, t3, -, hd, ⟨hw, hF, hX, -⟩, hh, ha, -, -, hk6⟩, w3, ⟨w4, -⟩, -⟩ := w
  obtain ⟨m7, m8, -⟩ := w1.2.2.2.2.1
  obtain ⟨-, g1⟩ := zC_run e1 (by decide +kernel) hk.2.1 (fun n => reach_c ht t3 hd hw hX w4 w3.1 (x := x1.toInt))
  obtain ⟨-, k1⟩ := zC_run e2 (by decide +kernel) p1 (fun n => reach_m hF hX m7 hw m8 w3.1 (x := x1.toInt))
  exact ⟨v1, v2, h1, h2, e1, i1, e2, ⟨i2, p2, t, D, S, H, K, zKp_kp w1 (kp_fr f2 (by decide +kernel))⟩, Int32.toInt_inj.mp ((zv1 g1).trans (zv1 k1).symm)⟩
theorem pr_cost {h : Ph} (x1 : Int32) (x2 : Int32) (hk : kJ h) : ∃ (v1 v2 : Int32) (h1 h2 : Ph), pm_Ex mtb (xsT 229) 229 5 1286 [.ref 0, .int x1, .int x2] h (some (.int v1)) h1 ∧ hI HTw RGw 229 h1 ∧ pm_Ex mtb (xsT 229) 229 3 1427 [.ref 172, .int x1, .int x2] h1 (some (.int v2)) h2 ∧ kJ h2 ∧ v1 = v2 := by
  obtain ⟨v1, h1, e1, i1, p1, f1⟩ := xq_cost x1 x2 hk.1 hk.2.1
  obtain ⟨v2, h2, e2, i2, p2, f2⟩ := mq_cost x1 x2 i1 p1
  obtain ⟨t, D, S, H, K, w⟩ := hk.2.2
  have w1 := zKp_kp w (kp_fr f1 (by decide +kernel))
  obtain ⟨-, ⟨ht, t3, -, hd, ⟨hw, hF, hX, -⟩, hh, ha, -, -, hk6⟩, w3, ⟨w4, -⟩, -⟩ := w
  obtain ⟨m7, m8, -⟩ := w1.2.2.2.2.1
  obtain ⟨-, g1⟩ := zC_run e1 (by decide +kernel) hk.2.1 (fun n => cost_c ht t3 hd hw hX hh hk6 w4 w3.1 (p := x1.toInt) (x := x2.toInt) (i32_b x2))
  obtain ⟨-, k1⟩ := zC_run e2 (by decide +kernel) p1 (fun n => cost_m hF hX m7 hw m8 w3.1 w1.2.1.2.2.2.2.2.2.2.2.2 (p := x1.toInt) (x := x2.toInt) (i32_b x2))
  exact ⟨v1, v2, h1, h2, e1, i1, e2, ⟨i2, p2, t, D, S, H, K, zKp_kp w1 (kp_fr f2 (by decide +kernel))⟩, Int32.toInt_inj.mp ((zv1 g1).trans (zv1 k1).symm)⟩
theorem pr_cut {h : Ph}  (hk : kJ h) : ∃ (v1 v2 : Int32) (h1 h2 : Ph), pm_Ex mtb (xsT 229) 229 7 1288 [.ref 0] h (some (.int v1)) h1 ∧ hI HTw RGw 229 h1 ∧ pm_Ex mtb (xsT 229) 229 5 1429 [.ref 172] h1 (some (.int v2)) h2 ∧ kJ h2 ∧ v1 = v2 := by
  obtain ⟨v1, h1, e1, i1, p1, f1⟩ := xq_cut  hk.1 hk.2.1
  obtain ⟨v2, h2, e2, i2, p2, f2⟩ := mq_cut  i1 p1
  obtain ⟨t, D, S, H, K, w⟩ := hk.2.2
  have w1 := zKp_kp w (kp_fr f1 (by decide +kernel))
  obtain ⟨-, ⟨ht, t3, -, hd, ⟨hw, hF, hX, -⟩, hh, ha, -, -, hk6⟩, w3, ⟨w4, -⟩, -⟩ := w
  obtain ⟨m7, m8, -⟩ := w1.2.2.2.2.1
  obtain ⟨-, g1⟩ := zC_run e1 (by decide +kernel) hk.2.1 (fun n => cut_c ht t3 hd hw hX w4 w3.1)
  obtain ⟨-, k1⟩ := zC_run e2 (by decide +kernel) p1 (fun n => cut_m hF hX m7 hw m8 w3.1)
  exact ⟨v1, v2, h1, h2, e1, i1, e2, ⟨i2, p2, t, D, S, H, K, zKp_kp w1 (kp_fr f2 (by decide +kernel))⟩, Int32.toInt_inj.mp ((zv1 g1).trans (zv1 k1).symm)⟩
theorem pr_alone {h : Ph} (x1 : Int32) (hk : kJ h) : ∃ (v1 v2 : Int32) (h1 h2 : Ph), pm_Ex mtb (xsT 229) 229 6 1282 [.ref 0, .int x1] h (some (.int v1)) h1 ∧ hI HTw RGw 229 h1 ∧ pm_Ex mtb (xsT 229) 229 4 1410 [.ref 172, .int x1] h1 (some (.int v2)) h2 ∧ kJ h2 ∧ v1 = v2 := by
  obtain ⟨v1, h1, e1, i1, p1, f1⟩ := xq_alone x1 hk.1 hk.2.1
  obtain ⟨v2, h2, e2, i2, p2, f2⟩ := mq_alone x1 i1 p1
  obtain ⟨t, D, S, H, K, w⟩ := hk.2.2
  have w1 := zKp_kp w (kp_fr f1 (by decide +kernel))
  obtain ⟨-, ⟨ht, t3, -, hd, ⟨hw, hF, hX, -⟩, hh, ha, -, -, hk6⟩, w3, ⟨w4, -⟩, -⟩ := w
  obtain ⟨m7, m8, -⟩ := w1.2.2.2.2.1
  obtain ⟨-, g1⟩ := zC_run e1 (by decide +kernel) hk.2.1 (fun n => alone_c ht t3 hd hw hX w4 w3.1 (x := x1.toInt))
  obtain ⟨-, k1⟩ := zC_run e2 (by decide +kernel) p1 (fun n => alone_m hF hX m7 hw m8 w3.1 (x := x1.toInt))
  exact ⟨v1, v2, h1, h2, e1, i1, e2, ⟨i2, p2, t, D, S, H, K, zKp_kp w1 (kp_fr f2 (by decide +kernel))⟩, Int32.toInt_inj.mp ((zv1 g1).trans (zv1 k1).symm)⟩
theorem pr_plan {h : Ph} (x1 : Int32) (hk : kJ h) : ∃ (v1 v2 : Int32) (h1 h2 : Ph), pm_Ex mtb (xsT 229) 229 7 1308 [.ref 0, .int x1] h (some (.int v1)) h1 ∧ hI HTw RGw 229 h1 ∧ pm_Ex mtb (xsT 229) 229 5 1490 [.ref 172, .int x1] h1 (some (.int v2)) h2 ∧ kJ h2 ∧ v1 = v2 := by
  obtain ⟨v1, h1, e1, i1, p1, f1⟩ := xq_plan x1 hk.1 hk.2.1
  obtain ⟨v2, h2, e2, i2, p2, f2⟩ := mq_plan x1 i1 p1
  obtain ⟨t, D, S, H, K, w⟩ := hk.2.2
  have w1 := zKp_kp w (kp_fr f1 (by decide +kernel))
  obtain ⟨-, ⟨ht, t3, -, hd, ⟨hw, hF, hX, -⟩, hh, ha, -, -, hk6⟩, w3, ⟨w4, -⟩, -⟩ := w
  obtain ⟨m7, m8, -⟩ := w1.2.2.2.2.1
  obtain ⟨-, g1⟩ := zC_run e1 (by decide +kernel) hk.2.1 (fun n => plan_c ht t3 hd hw hX w4 w3.1 (x := x1.toInt))
  obtain ⟨-, k1⟩ := zC_run e2 (by decide +kernel) p1 (fun n => plan_m hF hX m7 hw m8 w3.1 (x := x1.toInt))
  exact ⟨v1, v2, h1, h2, e1, i1, e2, ⟨i2, p2, t, D, S, H, K, zKp_kp w1 (kp_fr f2 (by decide +kernel))⟩, Int32.toInt_inj.mp ((zv1 g1).trans (zv1 k1).symm)⟩
theorem pr_thefts {h : Ph} (x1 : Int32) (x2 : Int32) (x3 : Int32) (hk : kJ h) : ∃ (v1 v2 : Int32) (h1 h2 : Ph), pm_Ex mtb (xsT 229) 229 7 1316 [.ref 0, .int x1, .int x2, .int x3] h (some (.int v1)) h1 ∧ hI HTw RGw 229 h1 ∧ pm_Ex mtb (xsT 229) 229 5 1518 [.ref 172, .int x1, .int x2, .int x3] h1 (some (.int v2)) h2 ∧ kJ h2 ∧ v1 = v2 := by
  obtain ⟨v1, h1, e1, i1, p1, f1⟩ := xq_thefts x1 x2 x3 hk.1 hk.2.1
  obtain ⟨v2, h2, e2, i2, p2, f2⟩ := mq_thefts x1 x2 x3 i1 p1
  obtain ⟨t, D, S, H, K, w⟩ := hk.2.2
  have w1 := zKp_kp w (kp_fr f1 (by decide +kernel))
  obtain ⟨-, ⟨ht, t3, -, hd, ⟨hw, hF, hX, -⟩, hh, ha, -, -, hk6⟩, w3, ⟨w4, -⟩, -⟩ := w
  obtain ⟨m7, m8, -⟩ := w1.2.2.2.2.1
  obtain ⟨-, g1⟩ := zC_run e1 (by decide +kernel) hk.2.1 (fun n => thefts_c zM_H ht t3 hd hw hX ha w4 w3.1 (x := x1.toInt) (y := x2.toInt) (w := x3.toInt))
  obtain ⟨-, k1⟩ := zC_run e2 (by decide +kernel) p1 (fun n => thefts_m hF hX m7 hw m8 w3.1 (x := x1.toInt) (y := x2.toInt) (w := x3.toInt))
  exact ⟨v1, v2, h1, h2, e1, i1, e2, ⟨i2, p2, t, D, S, H, K, zKp_kp w1 (kp_fr f2 (by decide +kernel))⟩, Int32.toInt_inj.mp ((zv1 g1).trans (zv1 k1).symm)⟩
theorem pr_see {h : Ph} (x1 : Int32) (x2 : Int32) (x3 : Int32) (bx3 : x3 = 0 ∨ x3 = 1) (hk : kJ h) : ∃ (v1 v2 : Int32) (h1 h2 : Ph), pm_Ex mtb (xsT 229) 229 5 1313 [.ref 0, .int x1, .int x2, .int x3] h (some (.int v1)) h1 ∧ hI HTw RGw 229 h1 ∧ pm_Ex mtb (xsT 229) 229 2 1508 [.ref 172, .int x1, .int x2, .int x3] h1 (some (.int v2)) h2 ∧ kJ h2 := by
  obtain ⟨v1, h1, e1, i1, p1, f1⟩ := xq_see x1 x2 x3 bx3 hk.1 hk.2.1
  obtain ⟨v2, h2, e2, i2, p2, f2⟩ := mq_see x1 x2 x3 bx3 i1 p1
  exact ⟨v1, v2, h1, h2, e1, i1, e2, i2, p2, zK_kp (zK_kp hk.2.2 (kp_fr f1 (by decide +kernel))) (kp_fr f2 (by decide +kernel))⟩
theorem pr_fits {h : Ph} (x1 : Int32) (hk : kJ h) : ∃ (v1 v2 : Int32) (h1 h2 : Ph), pm_Ex mtb (xsT 229) 229 2 1296 [.ref 0, .int x1] h (some (.int v1)) h1 ∧ hI HTw RGw 229 h1 ∧ pm_Ex mtb (xsT 229) 229 4 1436 [.ref 172, .int x1] h1 (some (.int v2)) h2 ∧ kJ h2 := by
  obtain ⟨v1, h1, e1, i1, p1, f1⟩ := xq_fits x1 hk.1 hk.2.1
  obtain ⟨v2, h2, e2, i2, p2, f2⟩ := mq_fits x1 i1 p1
  exact ⟨v1, v2, h1, h2, e1, i1, e2, i2, p2, zK_kp (zK_kp hk.2.2 (kp_fr f1 (by decide +kernel))) (kp_fr f2 (by decide +kernel))⟩
theorem pr_orders {h : Ph} (x1 : Int32) (hk : kJ h) : ∃ (v1 v2 : Int32) (h1 h2 : Ph), pm_Ex mtb (xsT 229) 229 4 1305 [.ref 0, .int x1] h (some (.int v1)) h1 ∧ hI HTw RGw 229 h1 ∧ pm_Ex mtb (xsT 229) 229 13 1486 [.ref 172, .int x1] h1 (some (.int v2)) h2 ∧ kJ h2 := by
  obtain ⟨v1, h1, e1, i1, p1, f1⟩ := xq_orders x1 hk.1 hk.2.1
  obtain ⟨v2, h2, e2, i2, p2, f2⟩ := mq_orders x1 i1 p1
  exact ⟨v1, v2, h1, h2, e1, i1, e2, i2, p2, zK_kp (zK_kp hk.2.2 (kp_fr f1 (by decide +kernel))) (kp_fr f2 (by decide +kernel))⟩
theorem pr_post {h : Ph} (x1 : Int32) (x2 : Int32) (hk : kJ h) : ∃ (v1 v2 : Int32) (h1 h2 : Ph), pm_Ex mtb (xsT 229) 229 3 1309 [.ref 0, .int x1, .int x2] h (some (.int v1)) h1 ∧ hI HTw RGw 229 h1 ∧ pm_Ex mtb (xsT 229) 229 3 1491 [.ref 172, .int x1, .int x2] h1 (some (.int v2)) h2 ∧ kJ h2 ∧ v1 = v2 := by
  obtain ⟨v1, h1, e1, i1, p1, f1⟩ := xq_post x1 x2 hk.1 hk.2.1
  obtain ⟨v2, h2, e2, i2, p2, f2⟩ := mq_post x1 x2 i1 p1
  obtain ⟨t, D, S, H, K, w⟩ := hk.2.2
  have w1 := zKp_kp w (kp_fr f1 (by decide +kernel))
  obtain ⟨-, ⟨ht, t3, -, hd, ⟨hw, hF, hX, -⟩, hh, ha, -, -, hk6⟩, w3, ⟨w4, -⟩, -⟩ := w
  obtain ⟨m7, m8, -⟩ := w1.2.2.2.2.1
  obtain ⟨-, g1⟩ := zC_run e1 (by decide +kernel) hk.2.1 (fun n => post_c zM_H ht t3 hd hw w4 w3.1 (x := x1.toInt) (w := x2.toInt))
  obtain ⟨-, k1⟩ := zC_run e2 (by decide +kernel) p1 (fun n => post_m m7 hw m8 w3.1 (x := x1.toInt) (w := x2.toInt))
  exact ⟨v1, v2, h1, h2, e1, i1, e2, ⟨i2, p2, t, D, S, H, K, zKp_kp w1 (kp_fr f2 (by decide +kernel))⟩, Int32.toInt_inj.mp ((zv1 g1).trans (zv1 k1).symm)⟩
theorem pr_watch {h : Ph}  (hk : kJ h) : ∃ (v1 v2 : Int32) (h1 h2 : Ph), pm_Ex mtb (xsT 229) 229 4 1320 [.ref 0] h (some (.int v1)) h1 ∧ hI HTw RGw 229 h1 ∧ pm_Ex mtb (xsT 229) 229 4 1523 [.ref 172] h1 (some (.int v2)) h2 ∧ kJ h2 ∧ v1 = v2 := by
  obtain ⟨v1, h1, e1, i1, p1, f1⟩ := xq_watch  hk.1 hk.2.1
  obtain ⟨v2, h2, e2, i2, p2, f2⟩ := mq_watch  i1 p1
  obtain ⟨t, D, S, H, K, w⟩ := hk.2.2
  have w1 := zKp_kp w (kp_fr f1 (by decide +kernel))
  obtain ⟨-, ⟨ht, t3, -, hd, ⟨hw, hF, hX, -⟩, hh, ha, -, -, hk6⟩, w3, ⟨w4, -⟩, -⟩ := w
  obtain ⟨m7, m8, -⟩ := w1.2.2.2.2.1
  obtain ⟨-, g1⟩ := zC_run e1 (by decide +kernel) hk.2.1 (fun n => watch_c ht t3 hd hw hF w4 w3.1)
  obtain ⟨-, k1⟩ := zC_run e2 (by decide +kernel) p1 (fun n => watch_m m7 hw hF m8 w3.1)
  exact ⟨v1, v2, h1, h2, e1, i1, e2, ⟨i2, p2, t, D, S, H, K, zKp_kp w1 (kp_fr f2 (by decide +kernel))⟩, Int32.toInt_inj.mp ((zv1 g1).trans (zv1 k1).symm)⟩
theorem pr_live {h : Ph} (x1 : Int32) (x2 : Int32) (x3 : Int32) (hk : kJ h) : ∃ (v1 v2 : Int32) (h1 h2 : Ph), pm_Ex mtb (xsT 229) 229 6 1301 [.ref 0, .int x1, .int x2, .int x3] h (some (.int v1)) h1 ∧ hI HTw RGw 229 h1 ∧ pm_Ex mtb (xsT 229) 229 5 1468 [.ref 172, .int x1, .int x2, .int x3] h1 (some (.int v2)) h2 ∧ kJ h2 ∧ v1 = v2 := by
  obtain ⟨v1, h1, e1, i1, p1, f1⟩ := xq_live x1 x2 x3 hk.1 hk.2.1
  obtain ⟨v2, h2, e2, i2, p2, f2⟩ := mq_live x1 x2 x3 i1 p1
  obtain ⟨t, D, S, H, K, w⟩ := hk.2.2
  have w1 := zKp_kp w (kp_fr f1 (by decide +kernel))
  obtain ⟨-, ⟨ht, t3, -, hd, ⟨hw, hF, hX, -⟩, hh, ha, -, -, hk6⟩, w3, ⟨w4, -⟩, -⟩ := w
  obtain ⟨m7, m8, -⟩ := w1.2.2.2.2.1
  obtain ⟨-, g1⟩ := zC_run e1 (by decide +kernel) hk.2.1 (fun n => live_c ht t3 hd hw hX w4 w3.1 (p := x1.toInt) (x := x2.toInt) (n := x3.toInt) (i32_b x2))
  obtain ⟨-, k1⟩ := zC_run e2 (by decide +kernel) p1 (fun n => live_m hF hX m7 hw m8 w3.1 (p := x1.toInt) (x := x2.toInt) (n := x3.toInt) (i32_b x2))
  exact ⟨v1, v2, h1, h2, e1, i1, e2, ⟨i2, p2, t, D, S, H, K, zKp_kp w1 (kp_fr f2 (by decide +kernel))⟩, Int32.toInt_inj.mp ((zv1 g1).trans (zv1 k1).symm)⟩
theorem pr_best {h : Ph} (x1 : Int32) (x2 : Int32) (hk : kJ h) : ∃ (v1 v2 : Int32) (h1 h2 : Ph), pm_Ex mtb (xsT 229) 229 5 1283 [.ref 0, .int x1, .int x2] h (some (.int v1)) h1 ∧ hI HTw RGw 229 h1 ∧ pm_Ex mtb (xsT 229) 229 5 1412 [.ref 172, .int x1, .int x2] h1 (some (.int v2)) h2 ∧ kJ h2 ∧ v1 = v2 := by
  obtain ⟨v1, h1, e1, i1, p1, f1⟩ := xq_best x1 x2 hk.1 hk.2.1
  obtain ⟨v2, h2, e2, i2, p2, f2⟩ := mq_best x1 x2 i1 p1
  obtain ⟨t, D, S, H, K, w⟩ := hk.2.2
  have w1 := zKp_kp w (kp_fr f1 (by decide +kernel))
  obtain ⟨-, ⟨ht, t3, -, hd, ⟨hw, hF, hX, -⟩, hh, ha, -, -, hk6⟩, w3, ⟨w4, -⟩, -⟩ := w
  obtain ⟨m7, m8, -⟩ := w1.2.2.2.2.1
  obtain ⟨-, g1⟩ := zC_run e1 (by decide +kernel) hk.2.1 (fun n => best_c ht t3 hd hw hX w4 w3.1 (p := x1.toInt) (n := x2.toInt))
  obtain ⟨-, k1⟩ := zC_run e2 (by decide +kernel) p1 (fun n => best_m hF hX m7 hw m8 w3.1 (p := x1.toInt) (n := x2.toInt))
  exact ⟨v1, v2, h1, h2, e1, i1, e2, ⟨i2, p2, t, D, S, H, K, zKp_kp w1 (kp_fr f2 (by decide +kernel))⟩, Int32.toInt_inj.mp ((zv1 g1).trans (zv1 k1).symm)⟩
theorem pr_count {h : Ph} (x1 : Int32) (hk : kJ h) : ∃ (v1 v2 : Int32) (h1 h2 : Ph), pm_Ex mtb (xsT 229) 229 2 1287 [.ref 0, .int x1] h (some (.int v1)) h1 ∧ hI HTw RGw 229 h1 ∧ pm_Ex mtb (xsT 229) 229 2 1428 [.ref 172, .int x1] h1 (some (.int v2)) h2 ∧ kJ h2 := by
  obtain ⟨v1, h1, e1, i1, p1, f1⟩ := xq_count x1 hk.1 hk.2.1
  obtain ⟨v2, h2, e2, i2, p2, f2⟩ := mq_count x1 i1 p1
  exact ⟨v1, v2, h1, h2, e1, i1, e2, i2, p2, zK_kp (zK_kp hk.2.2 (kp_fr f1 (by decide +kernel))) (kp_fr f2 (by decide +kernel))⟩
theorem pr_rests {h : Ph} (x1 : Int32) (x2 : Int32) (x3 : Int32) (x4 : Int32) (hk : kJ h) : ∃ (v2 : Int32) (h2 : Ph), pm_Ex mtb (xsT 229) 229 2 1506 [.ref 172, .int x1, .int x2, .int x3, .int x4] h (some (.int v2)) h2 ∧ kJ h2 := by
  obtain ⟨v2, h2, e2, i2, p2, f2⟩ := mq_rests x1 x2 x3 x4 hk.1 hk.2.1
  exact ⟨v2, h2, e2, i2, p2, zK_kp hk.2.2 (kp_fr f2 (by decide +kernel))⟩
theorem pr_steal {h : Ph} (x1 : Int32) (hk : kJ h) : ∃ (v1 v2 : Int32) (h1 h2 : Ph), pm_Ex mtb (xsT 229) 229 4 1315 [.ref 0, .int x1] h (some (.int v1)) h1 ∧ hI HTw RGw 229 h1 ∧ pm_Ex mtb (xsT 229) 229 6 1513 [.ref 172, .int x1] h1 (some (.int v2)) h2 ∧ kJ h2 := by
  obtain ⟨v1, h1, e1, i1, p1, f1⟩ := xq_steal x1 hk.1 hk.2.1
  obtain ⟨v2, h2, e2, i2, p2, f2⟩ := mq_steal x1 i1 p1
  obtain ⟨t, D, S, H, K, w⟩ := hk.2.2
  have w0 := w
  obtain ⟨h1', h2', h3, ⟨h4, h5, h6⟩, h7, h10⟩ := w0
  obtain ⟨ht, t3, t4, hd, ⟨hw, hF, hX, -⟩, hh, ha, hb, -, -⟩ := h2'
  obtain ⟨-, g1, g2, g3⟩ := zC_run e1 (by decide +kernel) hk.2.1 (fun n => steal_c ht t3 hd hw hX ha h4 h3.1 h5 (x := x1.toInt))
  have g3 : frDo t (zH h) (zH h1) := g3
  have mA : mAll (zH h1) D S H := mAll_fr ht hw h7 g3
  obtain ⟨-, k1, k2, k3⟩ := zC_run e2 (by decide +kernel) p1 (fun n => steal_m hw mA h3.1 (x := x1.toInt))
  have k3 : mFr (zH h1) (zH h2) := k3
  by_cases can : canS D S x1.toInt
  · obtain ⟨⟨u, eu, hu⟩, S1, H1⟩ := g1 can
    obtain ⟨⟨u2, eu2, hu2⟩, M2⟩ := k1 can
    exact ⟨v1, v2, h1, h2, e1, i1, e2, ⟨i2, p2, t, D, _, _, K, zK_do w g3 S1 H1 M2 k3 (wS_stl hw h3.1 _) (fun S'' q => mem_take h3.1 h3.2.1 q)⟩⟩
  · obtain ⟨eu, S1, H1⟩ := g2 can
    obtain ⟨eu2, M2⟩ := k2 can
    exact ⟨v1, v2, h1, h2, e1, i1, e2, ⟨i2, p2, t, D, _, _, K, zK_do w g3 S1 H1 M2 k3 h3.1 h3.2.1⟩⟩
theorem pr_build {h : Ph} (x1 : Int32) (hk : kJ h) : ∃ (v1 v2 : Int32) (h1 h2 : Ph), pm_Ex mtb (xsT 229) 229 4 1284 [.ref 0, .int x1] h (some (.int v1)) h1 ∧ hI HTw RGw 229 h1 ∧ pm_Ex mtb (xsT 229) 229 3 1415 [.ref 172, .int x1] h1 (some (.int v2)) h2 ∧ kJ h2 ∧ v1 = v2 := by
  obtain ⟨v1, h1, e1, i1, p1, f1⟩ := xq_build x1 hk.1 hk.2.1
  obtain ⟨v2, h2, e2, i2, p2, f2⟩ := mq_build x1 i1 p1
  obtain ⟨t, D, S, H, K, w⟩ := hk.2.2
  have w0 := w
  obtain ⟨h1', h2', h3, ⟨h4, h5, h6⟩, h7, h10⟩ := w0
  obtain ⟨ht, t3, t4, hd, ⟨hw, hF, hX, -⟩, hh, ha, hb, -, -⟩ := h2'
  obtain ⟨-, g1, g2, g3⟩ := zC_run e1 (by decide +kernel) hk.2.1 (fun n => build_c ht t3 hd hw hX ha h4 h3.1 h5 (x := x1.toInt))
  have g3 : frDo t (zH h) (zH h1) := g3
  have mA : mAll (zH h1) D S H := mAll_fr ht hw h7 g3
  obtain ⟨-, k1, k2, k3⟩ := zC_run e2 (by decide +kernel) p1 (fun n => build_m hw mA h3.1 (x := x1.toInt))
  have k3 : mFr (zH h1) (zH h2) := k3
  by_cases can : canB D S x1.toInt
  · obtain ⟨eu, S1, H1⟩ := g1 can
    obtain ⟨eu2, M2⟩ := k1 can
    exact ⟨v1, v2, h1, h2, e1, i1, e2, ⟨i2, p2, t, D, _, _, K, zK_do w g3 S1 H1 M2 k3 (wS_bld hw hX h3.1 can) (fun S'' q => mem_take h3.1 h3.2.1 q)⟩, Int32.toInt_inj.mp ((zv1 eu).trans (zv1 eu2).symm)⟩
  · obtain ⟨eu, S1, H1⟩ := g2 can
    obtain ⟨eu2, M2⟩ := k2 can
    exact ⟨v1, v2, h1, h2, e1, i1, e2, ⟨i2, p2, t, D, _, _, K, zK_do w g3 S1 H1 M2 k3 h3.1 h3.2.1⟩, Int32.toInt_inj.mp ((zv1 eu).trans (zv1 eu2).symm)⟩
theorem pr_go {h : Ph} (x1 : Int32) (x2 : Int32) (hk : kJ h) : ∃ (v1 v2 : Int32) (h1 h2 : Ph), pm_Ex mtb (xsT 229) 229 6 1299 [.ref 0, .int x1, .int x2] h (some (.int v1)) h1 ∧ hI HTw RGw 229 h1 ∧ pm_Ex mtb (xsT 229) 229 5 1441 [.ref 172, .int x1, .int x2] h1 (some (.int v2)) h2 ∧ kJ h2 ∧ v1 = v2 := by
  obtain ⟨v1, h1, e1, i1, p1, f1⟩ := xq_go x1 x2 hk.1 hk.2.1
  obtain ⟨v2, h2, e2, i2, p2, f2⟩ := mq_go x1 x2 i1 p1
  obtain ⟨t, D, S, H, K, w⟩ := hk.2.2
  have w0 := w
  obtain ⟨h1', h2', h3, ⟨h4, h5, h6⟩, h7, h10⟩ := w0
  obtain ⟨ht, t3, t4, hd, ⟨hw, hF, hX, -⟩, hh, ha, hb, -, -⟩ := h2'
  obtain ⟨-, g1, g2, g3⟩ := zC_run e1 (by decide +kernel) hk.2.1 (fun n => go_c ht t3 hd hw hX ha h4 h3.1 h5 (x := x1.toInt) (i32_b x2))
  have g3 : frDo t (zH h) (zH h1) := g3
  have mA : mAll (zH h1) D S H := mAll_fr ht hw h7 g3
  obtain ⟨-, k1, k2, k3⟩ := zC_run e2 (by decide +kernel) p1 (fun n => go_m hF hX hw mA h3.1 (x := x1.toInt) (i32_b x2))
  have k3 : mFr (zH h1) (zH h2) := k3
  by_cases can : canG D S x1.toInt x2.toInt
  · obtain ⟨eu, S1, H1⟩ := g1 can
    obtain ⟨eu2, M2⟩ := k1 can
    exact ⟨v1, v2, h1, h2, e1, i1, e2, ⟨i2, p2, t, D, _, _, K, zK_do w g3 S1 H1 M2 k3 (wS_go h3.1 can.2.2.1) (fun S'' q => mem_take h3.1 h3.2.1 q)⟩, Int32.toInt_inj.mp ((zv1 eu).trans (zv1 eu2).symm)⟩
  · obtain ⟨eu, S1, H1⟩ := g2 can
    obtain ⟨eu2, M2⟩ := k2 can
    exact ⟨v1, v2, h1, h2, e1, i1, e2, ⟨i2, p2, t, D, _, _, K, zK_do w g3 S1 H1 M2 k3 h3.1 h3.2.1⟩, Int32.toInt_inj.mp ((zv1 eu).trans (zv1 eu2).symm)⟩
theorem pr_carry {h : Ph} (x1 : Int32) (x2 : Int32) (x3 : Int32) (hk : kJ h) : ∃ (v1 v2 : Int32) (h1 h2 : Ph), pm_Ex mtb (xsT 229) 229 6 1285 [.ref 0, .int x1, .int x2, .int x3] h (some (.int v1)) h1 ∧ hI HTw RGw 229 h1 ∧ pm_Ex mtb (xsT 229) 229 4 1423 [.ref 172, .int x1, .int x2, .int x3] h1 (some (.int v2)) h2 ∧ kJ h2 ∧ v1 = v2 := by
  obtain ⟨v1, h1, e1, i1, p1, f1⟩ := xq_carry x1 x2 x3 hk.1 hk.2.1
  obtain ⟨v2, h2, e2, i2, p2, f2⟩ := mq_carry x1 x2 x3 i1 p1
  obtain ⟨t, D, S, H, K, w⟩ := hk.2.2
  have w0 := w
  obtain ⟨h1', h2', h3, ⟨h4, h5, h6⟩, h7, h10⟩ := w0
  obtain ⟨ht, t3, t4, hd, ⟨hw, hF, hX, -⟩, hh, ha, hb, -, -⟩ := h2'
  obtain ⟨-, g1, g2, g3⟩ := zC_run e1 (by decide +kernel) hk.2.1 (fun n => carry_c ht t3 hd hw hX ha h4 h3.1 h5 (x := x1.toInt) (i := x2.toInt) (i32_b x3))
  have g3 : frDo t (zH h) (zH h1) := g3
  have mA : mAll (zH h1) D S H := mAll_fr ht hw h7 g3
  obtain ⟨-, k1, k2, k3⟩ := zC_run e2 (by decide +kernel) p1 (fun n => carry_m hF hX hw mA h3.1 (x := x1.toInt) (i := x2.toInt) (i32_b x3))
  have k3 : mFr (zH h1) (zH h2) := k3
  by_cases can : canC D S x1.toInt x2.toInt x3.toInt
  · obtain ⟨eu, S1, H1⟩ := g1 can
    obtain ⟨eu2, M2⟩ := k1 can
    exact ⟨v1, v2, h1, h2, e1, i1, e2, ⟨i2, p2, t, D, _, _, K, zK_do w g3 S1 H1 M2 k3 (wS_car h3.1 can.2.2.2.2.2.1) (fun S'' q => mem_take h3.1 h3.2.1 q)⟩, Int32.toInt_inj.mp ((zv1 eu).trans (zv1 eu2).symm)⟩
  · obtain ⟨eu, S1, H1⟩ := g2 can
    obtain ⟨eu2, M2⟩ := k2 can
    exact ⟨v1, v2, h1, h2, e1, i1, e2, ⟨i2, p2, t, D, _, _, K, zK_do w g3 S1 H1 M2 k3 h3.1 h3.2.1⟩, Int32.toInt_inj.mp ((zv1 eu).trans (zv1 eu2).symm)⟩
theorem pr_night {h : Ph} (hk : kJ h) : ∃ (v1 v2 : Int32) (h1 h2 : Ph), pm_Ex mtb (xsT 229) 229 3 1303 [.ref 0] h (some (.int v1)) h1 ∧ hI HTw RGw 229 h1 ∧ pm_Ex mtb (xsT 229) 229 3 1483 [.ref 172] h1 (some (.int v2)) h2 ∧ kJ h2 ∧ v1 = v2 := by
  obtain ⟨v1, h1, e1, i1, p1, f1⟩ := xq_night hk.1 hk.2.1
  obtain ⟨v2, h2, e2, i2, p2, f2⟩ := mq_night i1 p1
  obtain ⟨t, D, S, H, K, w⟩ := hk.2.2
  have w0 := w
  obtain ⟨h1', h2', h3, ⟨h4, h5, h6⟩, h7, h10⟩ := w0
  obtain ⟨ht, t3, t4, hd, ⟨hw, hF, hX, -⟩, hh, ha, hb, -, -⟩ := h2'
  obtain ⟨-, eu, S1, H1, g3⟩ := zC_run e1 (by decide +kernel) hk.2.1 (fun n => night_c ht hw h4 h5)
  have g3 : frDo t (zH h) (zH h1) := g3
  have mA : mAll (zH h1) D S H := mAll_fr ht hw h7 g3
  obtain ⟨-, eu2, M2, k3⟩ := zC_run e2 (by decide +kernel) p1 (fun n => night_m hw mA)
  exact ⟨v1, v2, h1, h2, e1, i1, e2, ⟨i2, p2, t, D, _, _, K, zK_do w g3 S1 H1 M2 k3 (wS_nig h3.1) (fun S'' q => mem_take h3.1 h3.2.1 q)⟩, Int32.toInt_inj.mp ((zv1 eu).trans (zv1 eu2).symm)⟩
theorem pr_undo {h : Ph} (hk : kJ h) : ∃ (v1 v2 : Int32) (h1 h2 : Ph), pm_Ex mtb (xsT 229) 229 3 1319 [.ref 0] h (some (.int v1)) h1 ∧ hI HTw RGw 229 h1 ∧ pm_Ex mtb (xsT 229) 229 2 1522 [.ref 172] h1 (some (.int v2)) h2 ∧ kJ h2 ∧ v1 = v2 := by
  obtain ⟨v1, h1, e1, i1, p1, f1⟩ := xq_undo hk.1 hk.2.1
  obtain ⟨v2, h2, e2, i2, p2, f2⟩ := mq_undo i1 p1
  obtain ⟨t, D, S, H, K, w⟩ := hk.2.2
  have w0 := w
  obtain ⟨h1', h2', h3, ⟨h4, h5, h6⟩, h7, h10⟩ := w0
  obtain ⟨ht, t3, t4, hd, ⟨hw, hF, hX, -⟩, hh, ha, hb, -, -⟩ := h2'
  obtain ⟨-, g1, g2, g3⟩ := zC_run e1 (by decide +kernel) hk.2.1 (fun n => undo_c ht hw h4 h5)
  have g3 : frDo t (zH h) (zH h1) := g3
  have mA : mAll (zH h1) D S H := mAll_fr ht hw h7 g3
  obtain ⟨-, k1, k2, k3⟩ := zC_run e2 (by decide +kernel) p1 (fun n => undo_m hw mA)
  cases H with
  | nil =>
    obtain ⟨eu, S1, H1⟩ := g2 rfl
    obtain ⟨eu2, M2⟩ := k2 rfl
    exact ⟨v1, v2, h1, h2, e1, i1, e2, ⟨i2, p2, t, D, _, _, K, zK_do w g3 S1 H1 M2 k3 h3.1 h3.2.1⟩, Int32.toInt_inj.mp ((zv1 eu).trans (zv1 eu2).symm)⟩
  | cons S' H' =>
    obtain ⟨eu, S1, H1⟩ := g1 S' H' rfl
    obtain ⟨eu2, M2⟩ := k1 S' H' rfl
    exact ⟨v1, v2, h1, h2, e1, i1, e2, ⟨i2, p2, t, D, _, _, K, zK_do w g3 S1 H1 M2 k3 (h3.2.1 _ (List.mem_cons_self ..)) (fun S'' q => h3.2.1 _ (List.mem_cons_of_mem _ q))⟩, Int32.toInt_inj.mp ((zv1 eu).trans (zv1 eu2).symm)⟩
def kBL : Md := [(0, 3, 5), (0, 11, 12), (79, 0, 1), (79, 3, 5)] ++ kML ++ mcl
theorem kB_0 {c j : Nat} (h : (c = 0 ∧ (j = 3 ∨ j = 4 ∨ j = 11)) ∨ (c = 79 ∧ (j = 0 ∨ j = 3 ∨ j = 4)) ∨ (c = 172 ∧ j = 60) ∨ (c = 216 ∧ j < 12)) : cov kBL c j := by
  rcases h with ⟨rfl, rfl | rfl | rfl⟩ | ⟨rfl, rfl | rfl | rfl⟩ | ⟨rfl, rfl⟩ | ⟨rfl, h⟩
  · exact ⟨(0, 3, 5), by decide, by decide⟩
  · exact ⟨(0, 3, 5), by decide, by decide⟩
  · exact ⟨(0, 11, 12), by decide, by decide⟩
  · exact ⟨(79, 0, 1), by decide, by decide⟩
  · exact ⟨(79, 3, 5), by decide, by decide⟩
  · exact ⟨(79, 3, 5), by decide, by decide⟩
  · exact ⟨(172, 60, 61), by decide, by decide⟩
  · exact ⟨(216, 0, 12), by decide, rfl, Nat.zero_le _, h⟩
theorem kB_m {c j : Nat} (h1 : 174 ≤ c) (h2 : c ≤ 191) (h3 : j < hbf c) : cov kBL c j := ⟨(c, 0, hbf c), List.mem_append_right _ (List.mem_map.mpr ⟨c - 174, List.mem_range.mpr (by omega), by rw [show 174 + (c - 174) = c by omega]⟩), rfl, Nat.zero_le _, h3⟩
def kpT (s s' : Zs) : Prop := (∀ c j, cov kBL c j → s' c j = s c j) ∧ ∀ c, c ∈ wcl → ∀ j, s' c j = s c j
def wtT (md : Md) : Bool := wtB kBL md && wtC wcl md
theorem kpT_fr {md : Md} {h h' : Ph} (hf : fr md h h') (hb : wtT md = true) : kpT (zH h) (zH h') := by
  unfold wtT at hb
  rw [Bool.and_eq_true] at hb
  exact ⟨fun c j hw => zH_wt hf hb.1 hw, fun c hc j => zH_fr hf (wtC_ok hb.2 hc)⟩
theorem kpT_tr {s s' s'' : Zs} (h : kpT s s') (g : kpT s' s'') : kpT s s'' := ⟨fun c j q => (g.1 c j q).trans (h.1 c j q), fun c q j => (g.2 c q j).trans (h.2 c q j)⟩
theorem zKp_kpT {s s' : Zs} {t : Nat} {D : ZD} {S : ZS} {H : List ZS} {K : Nat → Option ZS} (h : zKp s t D S H K) (e : kpT s s') (nt : tape s') : zKp s' t D S H K := by
  obtain ⟨h1, h2, h3, ⟨h4, h5, h6⟩, ⟨h7, h8, h9⟩, h10⟩ := h
  obtain ⟨e1, e2⟩ := e
  have hw := h2.2.2.2.2.1.1
  refine ⟨nt, tldR_e h2 (fun c j b => ?_), h3, ⟨?_, cHi_e h5 (fun c j a b => ?_), mkC_e h6 (e1 _ _ (kB_0 (by omega))) (fun c j a b => e2 c (wcl_in (by omega)) j)⟩, ⟨mT_h (fun c j a b d => e1 c j (kB_m a b d)) hw h7, mSt_12 hw h8 (fun j hj => e1 _ _ (kB_0 (by omega))), mHi_e hw h9 (e1 _ _ (kB_0 (by omega))) (fun j => e2 219 (wcl_in (by omega)) j)⟩, mkM_e hw h10 (fun j => e2 220 (wcl_in (by omega)) j) (fun j => e2 218 (wcl_in (by omega)) j)⟩
  · unfold basD at b
    by_cases q : c = 174
    · subst q
      exact e1 174 j (kB_m (by omega) (by omega) (show j < 7 by omega))
    · by_cases q0 : c = 0
      · exact e1 c j (kB_0 (by omega))
      · exact e2 c (wcl_in (by omega)) j
  · obtain ⟨a1, a2, a3, a4, a5⟩ := h4
    exact ⟨(e1 _ _ (kB_0 (by omega))).trans a1, fun p hp => (e2 80 (wcl_in (by omega)) p).trans (a2 p hp), fun p hp => (e2 81 (wcl_in (by omega)) p).trans (a3 p hp), (e1 _ _ (kB_0 (by omega))).trans a4, (e1 _ _ (kB_0 (by omega))).trans a5⟩
  · exact e2 c (wcl_in (by omega)) j
theorem zKp_B {s s' : Zs} {t : Nat} {D : ZD} {S : ZS} {H : List ZS} {K : Nat → Option ZS} (h : zKp s t D S H K) (f : frB s s') : zKp s' t D S H K := by
  obtain ⟨h1, h2, h3, ⟨h4, h5, h6⟩, ⟨h7, h8, h9⟩, h10⟩ := h
  have hw := h2.2.2.2.2.1.1
  exact ⟨tape_e h1 (fun c j b => by unfold basT at b; exact f c j (by omega) (by omega) (by omega) (by omega)), tldR_e h2 (fun c j b => by unfold basD at b; exact f c j (by omega) (by omega) (by omega) (by omega)), h3, ⟨cSt_e h4 (fun c j a b _ => f c j (by omega) (by omega) (by omega) (by omega)), cHi_e h5 (fun c j a b => f c j (by omega) (by omega) (by omega) (by omega)), mkC_e h6 (f _ _ (by omega) (by omega) (by omega) (by omega)) (fun c j a b => f c j (by omega) (by omega) (by omega) (by omega))⟩, ⟨mT_e (fun c j a b => f c j (by omega) (by omega) (by omega) (by omega)) h7, mSt_12 hw h8 (fun j hj => f _ _ (by omega) (by omega) (by omega) (by omega)), mHi_e hw h9 (f _ _ (by omega) (by omega) (by omega) (by omega)) (fun j => f _ _ (by omega) (by omega) (by omega) (by omega))⟩, mkM_e hw h10 (fun j => f _ _ (by omega) (by omega) (by omega) (by omega)) (fun j => f _ _ (by omega) (by omega) (by omega) (by omega))⟩
theorem pr_judged {h : Ph} (x1 : Int32) (hk : kJ h) : ∃ (v1 v2 : Int32) (h1 h2 : Ph), pm_Ex mtb (xsT 229) 229 7 1300 [.ref 0, .int x1] h (some (.int v1)) h1 ∧ hI HTw RGw 229 h1 ∧ pm_Ex mtb (xsT 229) 229 7 1460 [.ref 172, .int x1] h1 (some (.int v2)) h2 ∧ kJ h2 := by
  obtain ⟨v1, h1, e1, i1, p1, f1⟩ := xq_judged x1 hk.1 hk.2.1
  obtain ⟨v2, h2, e2, i2, p2, f2⟩ := mq_judged x1 i1 p1
  obtain ⟨t, D, S, H, K, w⟩ := zK_kp hk.2.2 (kp_fr f1 (by decide +kernel))
  obtain ⟨-, g⟩ := zC_run e2 (by decide +kernel) p1 (fun n => judged_G)
  have g : frB (zH h1) (zH h2) := g
  exact ⟨v1, v2, h1, h2, e1, i1, e2, i2, p2, t, D, S, H, K, zKp_B w g⟩
theorem pr_years {h : Ph} (x1 : Int32) (x2 : Int32) (x3 : Int32) (hk : kJ h) : ∃ (v1 v2 : Int32) (h1 h2 : Ph), pm_Ex mtb (xsT 229) 229 7 1321 [.ref 0, .int x1, .int x2, .int x3] h (some (.int v1)) h1 ∧ hI HTw RGw 229 h1 ∧ pm_Ex mtb (xsT 229) 229 7 1528 [.ref 172, .int x1, .int x2, .int x3] h1 (some (.int v2)) h2 ∧ kJ h2 := by
  obtain ⟨v1, h1, e1, i1, p1, f1⟩ := xq_years x1 x2 x3 hk.1 hk.2.1
  obtain ⟨v2, h2, e2, i2, p2, f2⟩ := mq_years x1 x2 x3 i1 p1
  obtain ⟨t, D, S, H, K, w⟩ := zK_kp hk.2.2 (kp_fr f1 (by decide +kernel))
  obtain ⟨-, g⟩ := zC_run e2 (by decide +kernel) p1 (fun n => years_G)
  have g : frB (zH h1) (zH h2) := g
  exact ⟨v1, v2, h1, h2, e1, i1, e2, i2, p2, t, D, S, H, K, zKp_B w g⟩
theorem pr_feed {h : Ph} (x1 x2 x3 : Int64) (hk : kJ h) : ∃ (v1 v2 : Int32) (h1 h2 : Ph), pm_Ex mtb (xsT 229) 229 2 1291 [.ref 0, .long x1, .long x2, .long x3] h (some (.int v1)) h1 ∧ hI HTw RGw 229 h1 ∧ pm_Ex mtb (xsT 229) 229 1 1434 [.ref 172, .long x1, .long x2, .long x3] h1 (some (.int v2)) h2 ∧ kJ h2 := by
  obtain ⟨v1, h1, e1, i1, p1, f1⟩ := xq_feed x1 x2 x3 hk.1 hk.2.1
  obtain ⟨v2, h2, e2, i2, p2, f2⟩ := mq_feed x1 x2 x3 i1 p1
  obtain ⟨t, D, S, H, K, w⟩ := hk.2.2
  obtain ⟨⟨a, t1, t2⟩, k⟩ := w.1
  obtain ⟨-, g1, d1⟩ := zC_run e1 (by decide +kernel) hk.2.1 (fun n => feed_c (v1 := x1.toInt) (v2 := x2.toInt) (v3 := x3.toInt) t1)
  have d1 : frD (zH h) (zH h1) := d1
  have g1 : tpC (zH h1) _ := g1
  have t3 : tpM (zH h1) a := ⟨by rw [d1 172 1 (by decide) (by decide)]; exact t2.1, t2.2.1, fun i hi => by rw [d1 173 i (by omega) (by omega)]; exact t2.2.2 i hi⟩
  obtain ⟨-, g2⟩ := zC_run e2 (by decide +kernel) p1 (fun n => feed_m (v1 := x1.toInt) (v2 := x2.toInt) (v3 := x3.toInt) t3)
  have z : ∀ c j, cov [(1, 0, 1), (2, 0, 1000), (3, 0, 28)] c j → zH h2 c j = zH h1 c j := fun c j hw => zH_wt f2 (by decide +kernel) hw
  refine ⟨v1, v2, h1, h2, e1, i1, e2, i2, p2, t, D, S, H, K, zKp_kpT w (kpT_tr (kpT_fr f1 (by decide +kernel)) (kpT_fr f2 (by decide +kernel))) ⟨⟨_, ⟨?_, g1.2.1, fun i hi => ?_⟩, g2⟩, fun i hi => ?_⟩⟩
  · rw [z 1 0 ⟨(1, 0, 1), by decide, by decide⟩]; exact g1.1
  · rw [z 2 i ⟨(2, 0, 1000), by decide, rfl, Nat.zero_le _, Nat.lt_of_lt_of_le hi g1.2.1⟩]; exact g1.2.2 i hi
  · rw [z 3 i ⟨(3, 0, 28), by decide, rfl, Nat.zero_le _, hi⟩, d1 3 i (by omega) (by omega)]; exact k i hi
theorem pr_nights {h : Ph} (hk : kJ h) : ∃ (v1 v2 : Int32) (h1 h2 : Ph), pm_Ex mtb (xsT 229) 229 10 1304 [.ref 0] h (some (.int v1)) h1 ∧ hI HTw RGw 229 h1 ∧ pm_Ex mtb (xsT 229) 229 6 1484 [.ref 172] h1 (some (.int v2)) h2 ∧ kJ h2 ∧ v1 = v2 := by
  obtain ⟨v1, h1, e1, i1, p1, f1⟩ := xq_nights hk.1 hk.2.1
  obtain ⟨v2, h2, e2, i2, p2, f2⟩ := mq_nights i1 p1
  obtain ⟨t, D, S, H, K, w⟩ := hk.2.2
  obtain ⟨⟨a, t1, t2⟩, k⟩ := w.1
  obtain ⟨ht, h3, h4, hd, ⟨hw, hF, -, -⟩, hh, -, -, -, -⟩ := w.2.1
  have hm := w.2.2.2.2.1.1
  obtain ⟨-, g1, g2, -⟩ := zC_run e1 (by decide +kernel) hk.2.1 (fun n => nights_c (T := a.2) (n := a.1) ht h3 ⟨t1.1, t1.2.1, t1.2.2, k⟩ hd hw hh zM_H)
  have z1 : ∀ c j, cov [(172, 1, 2), (173, 0, 1000), (3, 0, 28)] c j → zH h1 c j = zH h c j := fun c j hw => zH_wt f1 (by decide +kernel) hw
  have t3 : tpM (zH h1) a := ⟨by rw [z1 172 1 ⟨(172, 1, 2), by decide, by decide⟩]; exact t2.1, t2.2.1, fun i hi => by rw [z1 173 i ⟨(173, 0, 1000), by decide, rfl, Nat.zero_le _, Nat.lt_of_lt_of_le hi t2.2.1⟩]; exact t2.2.2 i hi⟩
  have q1 := kpT_fr f1 (by decide +kernel)
  have m1 : mT (zH h1) D := mT_h (fun c j a b d => q1.1 c j (kB_m a b d)) hw hm
  obtain ⟨-, g5, g6, -⟩ := zC_run e2 (by decide +kernel) p1 (fun n => nights_m (T := a.2) (n := a.1) (D := D) t3.1 t3.2.1 t3.2.2 m1 hw hF)
  have z : ∀ c j, cov [(1, 0, 1), (3, 0, 28)] c j → zH h2 c j = zH h1 c j := fun c j hw => zH_wt f2 (by decide +kernel) hw
  refine ⟨v1, v2, h1, h2, e1, i1, e2, ⟨i2, p2, t, D, S, H, K, zKp_kpT w (kpT_tr q1 (kpT_fr f2 (by decide +kernel))) ⟨⟨(0, fun _ => 0), ⟨?_, Nat.zero_le _, fun i hi => absurd hi (Nat.not_lt_zero i)⟩, g6, Nat.zero_le _, fun i hi => absurd hi (Nat.not_lt_zero i)⟩, fun i hi => ?_⟩⟩, ?_⟩
  · rw [z 1 0 ⟨(1, 0, 1), by decide, by decide⟩]; exact g2
  · rw [z 3 i ⟨(3, 0, 28), by decide, rfl, Nat.zero_le _, hi⟩, z1 3 i ⟨(3, 0, 28), by decide, rfl, Nat.zero_le _, hi⟩]; exact k i hi
  · exact Int32.toInt_inj.mp ((zv1 g1).trans (zv1 g5).symm)
theorem pr_mark {h : Ph} (x1 : Int32) (x2 : Int32) (bx2 : x2 = 0 ∨ x2 = 1) (hk : kJ h) : ∃ (v1 v2 : Int32) (h1 h2 : Ph), pm_Ex mtb (xsT 229) 229 3 1302 [.ref 0, .int x1, .int x2] h (some (.int v1)) h1 ∧ hI HTw RGw 229 h1 ∧ pm_Ex mtb (xsT 229) 229 2 1472 [.ref 172, .int x1, .int x2] h1 (some (.int v2)) h2 ∧ kJ h2 ∧ v1 = v2 := by
  obtain ⟨v1, h1, e1, i1, p1, f1⟩ := xq_mark x1 x2 bx2 hk.1 hk.2.1
  obtain ⟨v2, h2, e2, i2, p2, f2⟩ := mq_mark x1 x2 bx2 i1 p1
  obtain ⟨t, D, S, H, K, w⟩ := hk.2.2
  obtain ⟨w1, w2, w3, ⟨w4, w5, w6⟩, w7, w8⟩ := w
  have ht := w2.1
  have hw := w2.2.2.2.2.1.1
  obtain ⟨-, g1, g2, g3⟩ := zC_run e1 (by decide +kernel) hk.2.1 (fun n => mark_c ht hw w4 w5 w6 (x := x1.toInt) (bk := x2.toInt))
  have g3 : ∀ c j, ¬ (79 ≤ c ∧ c ≤ 81) → ¬ (85 ≤ c ∧ c ≤ 88) → ¬ (138 ≤ c ∧ c ≤ 162) → ¬ (c = 0 ∧ j = 11) → zH h1 c j = zH h c j := g3
  have mA : mAll (zH h1) D S H := mAll_e hw w7 (fun c j a b => g3 c j (by omega) (by omega) (by omega) (by omega)) (fun j => g3 _ _ (by omega) (by omega) (by omega) (by omega)) (g3 _ _ (by omega) (by omega) (by omega) (by omega)) (fun j => g3 _ _ (by omega) (by omega) (by omega) (by omega))
  have mM : mkM (zH h1) D K := mkM_e hw w8 (fun j => g3 _ _ (by omega) (by omega) (by omega) (by omega)) (fun j => g3 _ _ (by omega) (by omega) (by omega) (by omega))
  obtain ⟨-, k1, k2, k3⟩ := zC_run e2 (by decide +kernel) p1 (fun n => mark_m hw mA mM (x := x1.toInt) (bk := x2.toInt))
  have k3 : ∀ c j, ¬ (c = 172 ∧ (j = 0 ∨ j = 60)) → ¬ (207 ≤ c ∧ c ≤ 220) → zH h2 c j = zH h1 c j := k3
  have tp : tape (zH h2) := tape_e w1 (fun c j b => by unfold basT at b; exact (k3 c j (by omega) (by omega)).trans (g3 c j (by omega) (by omega) (by omega) (by omega)))
  have td : tldR (zH h2) t D := tldR_e w2 (fun c j b => by unfold basD at b; exact (k3 c j (by omega) (by omega)).trans (g3 c j (by omega) (by omega) (by omega) (by omega)))
  have fin : ∀ S' H' K', wAll D S' H' K' → cSt (zH h1) 79 D S' → cHi (zH h1) D H' → mkC (zH h1) D K' → mAll (zH h2) D S' H' → mkM (zH h2) D K' → kJ h2 := fun S' H' K' a1 a2 a3 a4 a5 a6 => ⟨i2, p2, t, D, S', H', K', tp, td, a1, ⟨cSt_e a2 (fun c j a b _ => k3 c j (by omega) (by omega)), cHi_e a3 (fun c j a b => k3 c j (by omega) (by omega)), mkC_e a4 (k3 _ _ (by omega) (by omega)) (fun c j a b => k3 c j (by omega) (by omega))⟩, a5, a6⟩
  by_cases can : canM K x1.toInt x2.toInt
  · obtain ⟨eu, y0, y1⟩ := g2 can
    obtain ⟨eu2, u0, u1⟩ := k2 can
    refine ⟨v1, v2, h1, h2, e1, i1, e2, ?_, Int32.toInt_inj.mp ((zv1 eu).trans (zv1 eu2).symm)⟩
    by_cases b : x2.toInt = 0
    · obtain ⟨a1, a2, a3⟩ := y0 b
      obtain ⟨b1, b2⟩ := u0 b
      refine fin _ _ _ ⟨w3.1, w3.2.1, fun m S' hm hS' => ?_⟩ a1 a2 a3 b1 b2
      have hS' : (if m = x1.toInt.toNat then some S else K m) = some S' := hS'
      by_cases q : m = x1.toInt.toNat
      · rw [if_pos q] at hS'
        cases hS'
        exact w3.1
      · rw [if_neg q] at hS'
        exact w3.2.2 m S' hm hS'
    · obtain ⟨S', eS⟩ := Option.isSome_iff_exists.mp (can.2.2 b)
      obtain ⟨a1, a2, a3⟩ := y1 b S' eS
      obtain ⟨b1, b2⟩ := u1 b S' eS
      have l4 : x1.toInt.toNat < 4 := by have := can.1; have := can.2.1; omega
      exact fin _ _ _ ⟨w3.2.2 _ S' l4 eS, fun S'' q => by simp at q, w3.2.2⟩ a1 a2 a3 b1 b2
  · have e0 := g1 can
    obtain ⟨eu2, b1, b2⟩ := k1 can
    have eu : (some (Value.int v1)).toList.map zvl = [(0, 0)] := congrArg Prod.fst e0
    have es : zH h1 = zH h := congrArg Prod.snd e0
    refine ⟨v1, v2, h1, h2, e1, i1, e2, ?_, Int32.toInt_inj.mp ((zv1 eu).trans (zv1 eu2).symm)⟩
    exact fin _ _ _ w3 (by rw [es]; exact w4) (by rw [es]; exact w5) (by rw [es]; exact w6) b1 b2
theorem pr_town {h : Ph} (hk : kJ h) : ∃ (v1 v2 : Int32) (h1 h2 : Ph), pm_Ex mtb (xsT 229) 229 40 1318 [.ref 0] h (some (.int v1)) h1 ∧ hI HTw RGw 229 h1 ∧ pm_Ex mtb (xsT 229) 229 7 1521 [.ref 172] h1 (some (.int v2)) h2 ∧ kJ h2 ∧ v1 = v2 := by
  obtain ⟨v1, h1, e1, i1, p1, f1⟩ := xq_town hk.1 hk.2.1
  obtain ⟨v2, h2, e2, i2, p2, f2⟩ := mq_town i1 p1
  obtain ⟨t, D, S, H, K, w⟩ := hk.2.2
  obtain ⟨⟨⟨a, t1, t2⟩, k⟩, w2, w3, ⟨w4, w5, w6⟩, ⟨w7, w8, w9⟩, w10⟩ := w
  have ht := w2.1
  have hw := w2.2.2.2.2.1.1
  have ht2 : 50 - t = 7 ∨ 50 - t = 43 := by omega
  obtain ⟨-, ⟨g1, g2, g3, g4, g7⟩, g8'⟩ := zC_run e1 (by decide +kernel) hk.2.1 (fun n => townF_c (T := a.2) (n := a.1) ht2 w2.2.2.1 ⟨t1.1, t1.2.1, t1.2.2, k⟩ zM_H)
  have z1 : ∀ c j, cov ([(172, 1, 2), (172, 60, 61), (173, 0, 1000), (216, 0, 12)] ++ mcl) c j → zH h1 c j = zH h c j := fun c j hw => zH_wt f1 (by decide +kernel) hw
  have z1m : ∀ c j, 174 ≤ c → c ≤ 191 → j < hbf c → zH h1 c j = zH h c j := fun c j a b d => z1 c j ⟨(c, 0, hbf c), List.mem_append_right _ (List.mem_map.mpr ⟨c - 174, List.mem_range.mpr (by omega), by rw [show 174 + (c - 174) = c by omega]⟩), rfl, Nat.zero_le _, d⟩
  have z1c : ∀ c, c ∈ [218, 219, 220] → ∀ j, zH h1 c j = zH h c j := fun c hc j => zH_fr f1 (wtC_ok (cs := [218, 219, 220]) (by decide +kernel) hc)
  have t3 : tpM (zH h1) a := ⟨by rw [z1 172 1 ⟨(172, 1, 2), by decide, by decide⟩]; exact t2.1, t2.2.1, fun i hi => by rw [z1 173 i ⟨(173, 0, 1000), by decide, rfl, Nat.zero_le _, Nat.lt_of_lt_of_le hi t2.2.1⟩]; exact t2.2.2 i hi⟩
  obtain ⟨-, g5, g6, g8, g9⟩ := zC_run e2 (by decide +kernel) p1 (fun n => townF_m (T := a.2) (n := a.1) t3.1 t3.2.1 t3.2.2)
  have zc : ∀ c, c ∈ (List.range 150) → ∀ j, zH h2 c j = zH h1 c j := fun c hc j => zH_fr f2 (wtC_ok (cs := List.range 150) (by decide +kernel) hc)
  have zb : ∀ c j, c < 150 → zH h2 c j = zH h1 c j := fun c j hc => zc c (List.mem_range.mpr hc) j
  have k2 : ∀ i, i < 28 → zH h2 3 i = enc 32 (KW i) := fun i hi => by
    rw [zb 3 i (by omega)]; exact (g3 i).trans (k i hi)
  have ev : v1 = v2 := Int32.toInt_inj.mp ((zv1 g1).trans (zv1 g5).symm)
  have tp : tape (zH h2) := ⟨⟨(0, fun _ => 0), ⟨(zb 1 0 (by omega)).trans g2, Nat.zero_le _, fun i hi => absurd hi (Nat.not_lt_zero i)⟩, g6, Nat.zero_le _, fun i hi => absurd hi (Nat.not_lt_zero i)⟩, k2⟩
  have wa := @pTown_wA a.2 a.1
  generalize pAll a.2 a.1 1000 (0, 0) d0 = y at g1 g4 g7 g8 g8' g9 wa
  refine ⟨v1, v2, h1, h2, e1, i1, e2, ⟨i2, p2, ?_⟩, ev⟩
  by_cases hy : y.1.1 = 0
  · obtain ⟨q1, q2, q3, q4, q5, q6⟩ := g7 hy
    obtain ⟨c1, c2, c3, c4, c5, c6⟩ := g8' hy
    obtain ⟨m1, m2, m3, m4, m5, m6, m7, m8, m9, m10⟩ := g9 hy
    have q1 : zH h1 0 3 = zH h 0 4 := q1
    have q2 : zH h1 0 4 = zH h 0 3 := q2
    have q3 : cDn (zH h1) (50 - t) y.2 := q3
    have q5 : cDh (zH h1) (50 - t) (clD y.2) := q5
    have q6 : ∀ f : Nat, f < cnt y.2 1 → zH h1 (50 - t + 35) f = ((abv y.2 f : Nat) : Int) := q6
    have c1 : cSt (zH h1) 79 (clD y.2) (begT (clD y.2)) := c1
    have c2 : zH h1 88 0 = 0 := c2
    have c3 : zH h1 88 1 = zH h 88 1 := c3
    have c4 : zH h1 0 11 = 0 := c4
    have m1 : mT (zH h2) (clD y.2) := m1
    have m6 : mSt (zH h2) 216 0 (clD y.2) (begT (clD y.2)) := m6
    have m7 : zH h2 172 60 = 0 := m7
    have m8 : ∀ k, k < 4 → zH h2 220 k = 0 := m8
    obtain ⟨a1, a2, a3, a4, a5⟩ := wa hy
    have hb : 0 ≤ dHeap (clD y.2) ∧ dHeap (clD y.2) ≤ 999 := by
      show 0 ≤ (if dHeap y.2 = -1 then 0 else dHeap y.2) ∧ (if dHeap y.2 = -1 then 0 else dHeap y.2) ≤ 999
      split <;> omega
    have hb2 : dWalk (clD y.2) = -1 ∨ 0 ≤ dWalk (clD y.2) ∧ dWalk (clD y.2) ≤ 60 := by
      show (if dWalk y.2 = -1 then 5 else dWalk y.2) = -1 ∨ 0 ≤ (if dWalk y.2 = -1 then 5 else dWalk y.2) ∧ (if dWalk y.2 = -1 then 5 else dWalk y.2) ≤ 60
      split <;> omega
    have hb3 : 0 ≤ dWalk (clD y.2) ∧ dWalk (clD y.2) ≤ 60 := by
      show 0 ≤ (if dWalk y.2 = -1 then 5 else dWalk y.2) ∧ (if dWalk y.2 = -1 then 5 else dWalk y.2) ≤ 60
      split <;> omega
    have wB : wA (clD y.2) := ⟨a1, a2, a3, Or.inr hb, hb2⟩
    have td : tldR (zH h2) (50 - t) (clD y.2) := by
      refine ⟨ht2, ?_, ?_, cDn_e (D := clD y.2) q3 q4 (fun c j hc => zb c j (by omega)), wB, ?_, fun f hf => (zb _ _ (by omega)).trans (q6 f hf), hb, m4, fun _ => ⟨m5, hb3⟩⟩
      · rw [zb 0 3 (by omega), q1]; exact w2.2.2.1
      · rw [zb 0 4 (by omega), q2, show 50 - (50 - t) = t by omega]; exact w2.2.1
      · obtain ⟨b1, b2, b3, b4⟩ := q5
        unfold cDh
        rw [zb _ _ (by omega), zb _ _ (by omega), zb _ _ (by omega)]
        exact ⟨b1, b2, b3, b4⟩
    obtain ⟨-, -, nx, n1, n2, -⟩ := w5
    refine ⟨50 - t, clD y.2, begT (clD y.2), [], fun _ => none, tp, td, ⟨wS_beg a1 a3 hb, fun S' q => by simp at q, fun m S' _ q => by simp at q⟩, ⟨cSt_e c1 (fun c j a b _ => zb c j (by omega)), ⟨by decide, ?_, nx, n1, ?_, fun i S' q => by simp at q⟩, ⟨0, by decide, ?_, fun m _ => by rw [Nat.zero_testBit]; rfl⟩, fun m S' _ q => by simp at q⟩, ⟨m1, m6, by decide, m7, fun i S' q => by simp at q⟩, fun m hm => ⟨(m8 m hm).trans rfl, fun S' q => by simp at q⟩⟩
    · rw [zb _ _ (by omega), c2]; rfl
    · rw [zb _ _ (by omega), c3]; exact n2
    · rw [zb _ _ (by omega), c4]; rfl
  · have q : ∀ c j, c ≠ 1 → ¬ (50 - t ≤ c ∧ c ≤ 50 - t + 35) → zH h1 c j = zH h c j := g4 hy
    obtain ⟨u1, u2, u3⟩ := g8 hy
    have u1 : ∀ c j, 174 ≤ c → c ≤ 191 → j < hbf c → zH h2 c j = zH h1 c j := u1
    have u2 : ∀ c j, 207 ≤ c → zH h2 c j = zH h1 c j := u2
    have u3 : zH h2 172 60 = zH h1 172 60 := u3
    have r : ∀ c j, c < 150 → c ≠ 1 → ¬ (50 - t ≤ c ∧ c ≤ 50 - t + 35) → zH h2 c j = zH h c j := fun c j a b d => (zb c j a).trans (q c j b d)
    refine ⟨t, D, S, H, K, tp, ?_, w3, ⟨cSt_e w4 (fun c j a b _ => r c j (by omega) (by omega) (by omega)), cHi_e w5 (fun c j a b => r c j (by omega) (by omega) (by omega)), mkC_e w6 (r _ _ (by omega) (by omega) (by omega)) (fun c j a b => r c j (by omega) (by omega) (by omega))⟩, ⟨mT_h (fun c j a b d => (u1 c j a b d).trans (z1m c j a b d)) hw w7, mSt_12 hw w8 (fun j hj => (u2 _ _ (by omega)).trans (q _ _ (by omega) (by omega))), mHi_e hw w9 (u3.trans (q _ _ (by omega) (by omega))) (fun j => (u2 _ _ (by omega)).trans (q _ _ (by omega) (by omega)))⟩, mkM_e hw w10 (fun j => (u2 _ _ (by omega)).trans (q _ _ (by omega) (by omega))) (fun j => (u2 _ _ (by omega)).trans (q _ _ (by omega) (by omega)))⟩
    obtain ⟨-, h3, h4, hd, hw', hh, ha, hb, h5, h6⟩ := w2
    have e174 : ∀ j, j < 7 → zH h2 174 j = zH h 174 j := fun j hj => (u1 174 j (by omega) (by omega) hj).trans (z1m 174 j (by omega) (by omega) hj)
    refine ⟨ht, (r _ _ (by omega) (by omega) (by omega)).trans h3, (r _ _ (by omega) (by omega) (by omega)).trans h4, cDn_e hd hw (fun c j hc => r c j (by omega) (by omega) (by omega)), hw', ?_, fun f hf => (r _ _ (by omega) (by omega) (by omega)).trans (ha f hf), hb, (e174 5 (by omega)).trans h5, fun z => ⟨(e174 6 (by omega)).trans (h6 z).1, (h6 z).2⟩⟩
    obtain ⟨b1, b2, b3, b4⟩ := hh
    unfold cDh
    rw [r _ _ (by omega) (by omega) (by omega), r _ _ (by omega) (by omega) (by omega), r _ _ (by omega) (by omega) (by omega)]
    exact ⟨b1, b2, b3, b4⟩
theorem fkT_K : ∀ i, i < 28 → (FKL.getD i 0).toInt = enc 32 (KW i) := by decide +kernel
theorem zHW_n {fk : Nat → Int64} {f1 e1 f2 e2 : Nat → Int32} {c j : Nat} (h1 : c ≠ 3) (h2 : c ≠ 37) (h3 : c ≠ 41) (h4 : c ≠ 73) (h5 : c ≠ 77) : zH (hW fk f1 e1 f2 e2) c j = zH hZ c j := by
  unfold hW
  rw [zH_u h5, zH_u h4, zH_u h3, zH_u h2, zH_u h1]
/-- at first: nothing is told -/
def dI : ZD := (fun _ => [], fun _ => [], 0, 5, 1)
theorem cnt_I (k : Nat) : cnt dI k = 0 := by unfold cnt; split <;> rfl
theorem zK_W {fk : Nat → Int64} {f1 e1 f2 e2 : Nat → Int32} (hf : fk = fkT) (he : ∀ q, q < 30 → e1 q = (-1 : Int32)) : zK (zH (hW fk f1 e1 f2 e2)) := by
  have z : ∀ {c j : Nat}, c ≠ 3 → c ≠ 37 → c ≠ 41 → c ≠ 73 → c ≠ 77 → zH (hW fk f1 e1 f2 e2) c j = zH hZ c j := fun a b c d e => zHW_n a b c d e
  have n0 : ∀ (k i : Nat) (w : List Int), ¬ (dN dI k)[i]? = some w := fun k i w q => by
    have q : ([] : List (List Int))[i]? = some w := q
    simp at q
  have n1 : ∀ (c i : Nat) (v : Int), ¬ (dC dI c)[i]? = some v := fun c i v q => by
    have q : ([] : List Int)[i]? = some v := q
    simp at q
  have n2 : ∀ (c : Nat) (v : Int), v ∈ dC dI c → False := fun c v q => by
    have q : v ∈ ([] : List Int) := q
    cases q
  have a8 : ∀ k, k < 5 → zH hZ 8 k = 0 := by
    have h : ((List.range 5).all fun k => decide (zH hZ 8 k = 0)) = true := by decide +kernel
    exact fun k hk => of_decide_eq_true (List.all_eq_true.mp h k (List.mem_range.mpr hk))
  have a39 : ∀ k, k < 25 → zH hZ 39 k = 0 := by
    have h : ((List.range 25).all fun k => decide (zH hZ 39 k = 0)) = true := by decide +kernel
    exact fun k hk => of_decide_eq_true (List.all_eq_true.mp h k (List.mem_range.mpr hk))
  have a174 : ∀ k, k < 5 → zH hZ 174 k = 0 := by
    have h : ((List.range 5).all fun k => decide (zH hZ 174 k = 0)) = true := by decide +kernel
    exact fun k hk => of_decide_eq_true (List.all_eq_true.mp h k (List.mem_range.mpr hk))
  have a220 : ∀ k, k < 4 → zH hZ 220 k = 0 := by
    have h : ((List.range 4).all fun k => decide (zH hZ 220 k = 0)) = true := by decide +kernel
    exact fun k hk => of_decide_eq_true (List.all_eq_true.mp h k (List.mem_range.mpr hk))
  have c0 : ∀ {k p : Nat}, ¬ p < cnt dI k := fun {k p} q => by rw [cnt_I] at q; exact absurd q (Nat.not_lt_zero p)
  have th : (sTh (begT dI) : Int) = 0 := by
    show ((2 ^ cnt dI 1 - 1 : Nat) : Int) = 0
    rw [cnt_I]; rfl
  refine ⟨7, dI, begT dI, [], fun _ => none, ⟨⟨(0, fun _ => 0), ⟨?_, Nat.zero_le _, fun i hi => absurd hi (Nat.not_lt_zero i)⟩, ?_, Nat.zero_le _, fun i hi => absurd hi (Nat.not_lt_zero i)⟩, fun i hi => ?_⟩, ⟨Or.inl rfl, ?_, ?_, ⟨fun k hk => ?_, fun q hq => ?_, fun i v hv => absurd hv (n1 _ _ _), fun k j i v _ _ _ hv => absurd hv (n1 _ _ _), fun q hq => ?_⟩, ⟨wD_0, fun i a b ha => absurd ha (n1 _ _ _), ⟨fun i j a b ha => absurd ha (n1 _ _ _), fun v h => (n2 _ _ h).elim, fun v h => (n2 _ _ h).elim, fun v h => (n2 _ _ h).elim, fun v h => (n2 _ _ h).elim, fun v h => (n2 _ _ h).elim, fun v h => (n2 _ _ h).elim, fun v h => (n2 _ _ h).elim, fun v h => (n2 _ _ h).elim, fun v h => (n2 _ _ h).elim, fun v h => (n2 _ _ h).elim⟩, Or.inr ⟨by decide, by decide⟩, Or.inr ⟨by decide, by decide⟩⟩, ⟨?_, ?_, ?_, ?_⟩, fun f hf => absurd hf c0, ⟨by decide, by decide⟩, ?_, fun q => absurd q c0⟩, ⟨⟨?_, fun p hp => absurd hp c0, fun p hp => absurd hp c0, by decide, by decide⟩, fun S' q => by simp at q, fun m S' _ q => by simp at q⟩, ⟨⟨?_, fun p hp => absurd hp c0, fun p hp => absurd hp c0, ?_, ?_⟩, ⟨by decide, ?_, 0, by decide, ?_, fun i S' q => by simp at q⟩, ⟨0, by decide, ?_, fun m _ => by rw [Nat.zero_testBit]; rfl⟩, fun m S' _ q => by simp at q⟩, ⟨⟨fun k hk => ?_, fun k i w _ _ hv => absurd hv (n0 _ _ _), fun k j i v _ _ hv => absurd hv (n1 _ _ _)⟩, ⟨?_, fun p hp => absurd hp c0, fun p hp => absurd hp c0, ?_, ?_⟩, by decide, ?_, fun i S' q => by simp at q⟩, fun m hm => ⟨?_, fun S' q => by simp at q⟩⟩
  · rw [z (by decide) (by decide) (by decide) (by decide) (by decide)]; decide +kernel
  · rw [z (by decide) (by decide) (by decide) (by decide) (by decide)]; decide +kernel
  · have e : zH (hW fk f1 e1 f2 e2) 3 i = (fk i).toInt := by
      unfold hW
      rw [zH_u (by decide), zH_u (by decide), zH_u (by decide), zH_u (by decide), zH_s (by decide)]
      show zso (if i < 28 then some (.long (fk i)) else none) = _
      rw [if_pos hi]
      rfl
    rw [e, hf, fkT_L i hi, fkT_K i hi]
  · rw [z (by decide) (by decide) (by decide) (by decide) (by decide)]; decide +kernel
  · rw [z (by decide) (by decide) (by decide) (by decide) (by decide)]; decide +kernel
  · rw [z (by decide) (by decide) (by decide) (by decide) (by decide), cnt_I]; exact a8 k hk
  · rw [z (by decide) (by decide) (by decide) (by decide) (by decide)]
    have e : nmV dI q = 0 := by
      unfold nmV
      show (match ([] : List (List Int))[q % 5]? with
        | some w => enc 32 w
        | none => 0) = 0
      rw [List.getElem?_nil]
    rw [e]
    exact a39 q hq
  · have e : zH (hW fk f1 e1 f2 e2) 41 q = (e1 q).toInt := by
      unfold hW
      rw [zH_u (by decide), zH_u (by decide), zH_s (by decide)]
      show zso (if q < 30 then some (.int (e1 q)) else none) = _
      rw [if_pos hq]
      rfl
    have e2 : zH (hW fk f1 e1 f2 e2) (7 + 34) q = (e1 q).toInt := e
    rw [e2, he q hq]
    rfl
  · rw [z (by decide) (by decide) (by decide) (by decide) (by decide)]; decide +kernel
  · rw [z (by decide) (by decide) (by decide) (by decide) (by decide)]; decide +kernel
  · rw [z (by decide) (by decide) (by decide) (by decide) (by decide)]; decide +kernel
  · rw [z (by decide) (by decide) (by decide) (by decide) (by decide)]; decide +kernel
  · rw [z (by decide) (by decide) (by decide) (by decide) (by decide)]; decide +kernel
  · show 2 ^ cnt dI 1 - 1 < 2 ^ cnt dI 1
    rw [cnt_I]; decide
  · rw [z (by decide) (by decide) (by decide) (by decide) (by decide), th]; decide +kernel
  · rw [z (by decide) (by decide) (by decide) (by decide) (by decide)]; decide +kernel
  · rw [z (by decide) (by decide) (by decide) (by decide) (by decide)]; decide +kernel
  · rw [z (by decide) (by decide) (by decide) (by decide) (by decide)]; decide +kernel
  · rw [z (by decide) (by decide) (by decide) (by decide) (by decide)]; decide +kernel
  · rw [z (by decide) (by decide) (by decide) (by decide) (by decide)]; decide +kernel
  · rw [z (by decide) (by decide) (by decide) (by decide) (by decide), cnt_I]; exact a174 k hk
  · rw [z (by decide) (by decide) (by decide) (by decide) (by decide), th]; decide +kernel
  · rw [z (by decide) (by decide) (by decide) (by decide) (by decide)]; decide +kernel
  · rw [z (by decide) (by decide) (by decide) (by decide) (by decide)]; decide +kernel
  · rw [z (by decide) (by decide) (by decide) (by decide) (by decide)]; decide +kernel
  · rw [z (by decide) (by decide) (by decide) (by decide) (by decide)]; exact a220 m hm
theorem kJ_W {fk : Nat → Int64} {f1 e1 f2 e2 : Nat → Int32} (h : fk = fkT ∧ (∀ q, q < 30 → e1 q = (-1 : Int32)) ∧ (∀ q, q < 30 → e2 q = (-1 : Int32))) : kJ (hW fk f1 e1 f2 e2) := ⟨hW_I _ _ _ _ _ h.2.1 h.2.2, Kp_W _ _ _ _ _, zK_W h.1 h.2.1⟩
