/-! what is held between calls of the law, and each method called on both sides -/
def tcl : List Nat := (List.range 79).filter fun c => decide (7 ≤ c ∧ c ≠ 37 ∧ c ≠ 38 ∧ c ≠ 73 ∧ c ≠ 74)
theorem tcl_in {c : Nat} (h : 7 ≤ c ∧ c ≤ 78 ∧ c ≠ 37 ∧ c ≠ 38 ∧ c ≠ 73 ∧ c ≠ 74) : c ∈ tcl := List.mem_filter.mpr ⟨List.mem_range.mpr (by omega), decide_eq_true ⟨h.1, h.2.2⟩⟩
def mcl : Md := (List.range 18).map fun i => (174 + i, 0, hbf (174 + i))
def zJW : Md := [(0, 3, 5), (1, 0, 1), (2, 0, 1000), (3, 0, 28), (172, 1, 2), (173, 0, 1000)] ++ mcl
theorem cw1 : cov zJW 0 3 := ⟨(0, 3, 5), by decide, by decide⟩
theorem cw2 : cov zJW 0 4 := ⟨(0, 3, 5), by decide, by decide⟩
theorem cw3 : cov zJW 1 0 := ⟨(1, 0, 1), by decide, by decide⟩
theorem cw4 {i : Nat} (h : i < 1000) : cov zJW 2 i := ⟨(2, 0, 1000), by decide, rfl, Nat.zero_le _, h⟩
theorem cw5 {i : Nat} (h : i < 28) : cov zJW 3 i := ⟨(3, 0, 28), by decide, rfl, Nat.zero_le _, h⟩
theorem cw6 : cov zJW 172 1 := ⟨(172, 1, 2), by decide, by decide⟩
theorem cw7 {i : Nat} (h : i < 1000) : cov zJW 173 i := ⟨(173, 0, 1000), by decide, rfl, Nat.zero_le _, h⟩
theorem cw8 {c j : Nat} (h1 : 174 ≤ c) (h2 : c ≤ 191) (h3 : j < hbf c) : cov zJW c j := ⟨(c, 0, hbf c), List.mem_append_right _ (List.mem_map.mpr ⟨c - 174, List.mem_range.mpr (by omega), by rw [show 174 + (c - 174) = c by omega]⟩), rfl, Nat.zero_le _, h3⟩
def kpS (s s' : Zs) : Prop := (∀ c j, cov zJW c j → s' c j = s c j) ∧ ∀ c, c ∈ tcl → ∀ j, s' c j = s c j
def wtC (cs : List Nat) (md : Md) : Bool := md.all fun m => !cs.contains m.1
theorem wtC_ok {cs : List Nat} {md : Md} (h : wtC cs md = true) {c j : Nat} (hc : c ∈ cs) : ¬ cov md c j := by
  intro ⟨m, hm, m1, m2, m3⟩
  have := List.all_eq_true.mp h m hm
  rw [m1, Bool.not_eq_true', List.contains_eq_mem, decide_eq_false_iff_not] at this
  exact this hc
def wtK (md : Md) : Bool := wtB zJW md && wtC tcl md
theorem kp_fr {md : Md} {h h' : Ph} (hf : fr md h h') (hb : wtK md = true) : kpS (zH h) (zH h') := by
  unfold wtK at hb
  rw [Bool.and_eq_true] at hb
  exact ⟨fun c j hw => zH_wt hf hb.1 hw, fun c hc j => zH_fr hf (wtC_ok hb.2 hc)⟩
/-- the town told, on both sides -/
def tldS (s : Zs) (t : Nat) (D : ZD) : Prop := (t = 7 ∨ t = 43) ∧ s 0 3 = ((t : Nat) : Int) ∧ s 0 4 = ((50 - t : Nat) : Int) ∧ cDn s t D ∧ wD D ∧ wF D ∧ cDh s t D ∧ mT s D
def zJ (s : Zs) : Prop := (∃ a, tpC s a ∧ tpM s a) ∧ (∀ i, i < 28 → s 3 i = enc 32 (KW i)) ∧ ∃ t D, tldS s t D
theorem mT_h {s s' : Zs} {D : ZD} (f : ∀ c j, 174 ≤ c → c ≤ 191 → j < hbf c → s' c j = s c j) (hw : wD D) (h : mT s D) : mT s' D := by
  obtain ⟨h1, h2, h3⟩ := h
  refine ⟨fun k hk => ?_, fun k i w hk hk1 hv => ?_, fun k j i v hk hj hv => ?_⟩
  · rw [f 174 k (by omega) (by omega) (show k < 7 by omega)]
    exact h1 k hk
  · have hb := mnc_b k
    have hi := (List.getElem?_eq_some_iff.mp hv).1
    have hl : (dN D k).length = cnt D k := by unfold cnt; rw [if_neg hk1]
    have hm := cnt_mnb hw hk
    rw [f _ _ (by omega) (by omega) (by rw [hbf_mnc hk hk1]; omega)]
    exact h2 k i w hk hk1 hv
  · have hb := mcc_b hk hj
    have hi := (List.getElem?_eq_some_iff.mp hv).1
    rw [dC_len hw hk hj] at hi
    have hm := cnt_mnb hw hk
    rw [f _ _ (by omega) (by omega) (by rw [hbf_mcc hk hj]; omega)]
    exact h3 k j i v hk hj hv
/-- the told town stays where its cells stay -/
theorem tld_keep {s s' : Zs} {t : Nat} {D : ZD} (h : tldS s t D) (e0 : ∀ j, j = 3 ∨ j = 4 → s' 0 j = s 0 j) (e1 : ∀ c j, t ≤ c → c ≤ t + 35 → c ≠ t + 30 → c ≠ t + 31 → s' c j = s c j) (e2 : ∀ c j, 174 ≤ c → c ≤ 191 → j < hbf c → s' c j = s c j) : tldS s' t D := by
  obtain ⟨ht, h3, h4, hd, hw, hF, hh, hm⟩ := h
  refine ⟨ht, by rw [e0 3 (Or.inl rfl)]; exact h3, by rw [e0 4 (Or.inr rfl)]; exact h4, cDn_e hd hw (fun c j hc => e1 c j (by omega) (by omega) (by omega) (by omega)), hw, hF, ?_, mT_h e2 hw hm⟩
  obtain ⟨b1, b2, b3, b4⟩ := hh
  unfold cDh
  rw [e1 _ _ (by omega) (by omega) (by omega) (by omega), e1 _ _ (by omega) (by omega) (by omega) (by omega), e1 _ _ (by omega) (by omega) (by omega) (by omega)]
  exact ⟨b1, b2, b3, b4⟩
theorem tld_kp {s s' : Zs} {t : Nat} {D : ZD} (h : tldS s t D) (e : kpS s s') : tldS s' t D := by
  have ht := h.1
  refine tld_keep h (fun j hj => ?_) (fun c j a b u v => e.2 c (tcl_in (by omega)) j) (fun c j a b d => e.1 c j (cw8 a b d))
  rcases hj with rfl | rfl
  · exact e.1 _ _ cw1
  · exact e.1 _ _ cw2
theorem zJ_wt {s s' : Zs} (e : kpS s s') (h : zJ s) : zJ s' := by
  obtain ⟨⟨a, ⟨p1, p2, p3⟩, q1, q2, q3⟩, k, t, D, w⟩ := h
  have e1 := e.1
  refine ⟨⟨a, ⟨?_, p2, fun i hi => ?_⟩, ?_, q2, fun i hi => ?_⟩, fun i hi => ?_, t, D, tld_kp w e⟩
  · rw [e1 _ _ cw3]; exact p1
  · rw [e1 _ _ (cw4 (by omega))]; exact p3 i hi
  · rw [e1 _ _ cw6]; exact q1
  · rw [e1 _ _ (cw7 (by omega))]; exact q3 i hi
  · rw [e1 _ _ (cw5 hi)]; exact k i hi
def kJ (h : Ph) : Prop := hI HTw RGw 229 h ∧ Kp h ∧ zJ (zH h)
theorem kJ_fr {h h' : Ph} (hk : kJ h) (hi : hI HTw RGw 229 h') (hf : fr [] h h') : kJ h' := ⟨hi, Kp_fr hk.2.1 hk.1 hi hf, by rw [zH_fr0 hf]; exact hk.2.2⟩
theorem zM_H {h : Ph} : zM (zH h) := fun j => if_pos rfl
theorem fkT_K : ∀ i, i < 28 → (FKL.getD i 0).toInt = enc 32 (KW i) := by decide +kernel
theorem zHW_n {fk : Nat → Int64} {f1 e1 f2 e2 : Nat → Int32} {c j : Nat} (h1 : c ≠ 3) (h2 : c ≠ 37) (h3 : c ≠ 41) (h4 : c ≠ 73) (h5 : c ≠ 77) : zH (hW fk f1 e1 f2 e2) c j = zH hZ c j := by
  unfold hW
  rw [zH_u h5, zH_u h4, zH_u h3, zH_u h2, zH_u h1]
/-- at first: nothing is told -/
def dI : ZD := (fun _ => [], fun _ => [], 0, 5, 1)
theorem cnt_I (k : Nat) : cnt dI k = 0 := by unfold cnt; split <;> rfl
theorem tld_W {fk : Nat → Int64} {f1 e1 f2 e2 : Nat → Int32} (he : ∀ q, q < 30 → e1 q = (-1 : Int32)) : tldS (zH (hW fk f1 e1 f2 e2)) 7 dI := by
  have z : ∀ {c j : Nat}, c ≠ 3 → c ≠ 37 → c ≠ 41 → c ≠ 73 → c ≠ 77 → zH (hW fk f1 e1 f2 e2) c j = zH hZ c j := fun a b c d e => zHW_n a b c d e
  have n0 : ∀ (k i : Nat) (w : List Int), ¬ (dN dI k)[i]? = some w := fun k i w q => by
    have q : ([] : List (List Int))[i]? = some w := q
    simp at q
  have n1 : ∀ (c i : Nat) (v : Int), ¬ (dC dI c)[i]? = some v := fun c i v q => by
    have q : ([] : List Int)[i]? = some v := q
    simp at q
  have a8 : ∀ k, k < 5 → zH hZ 8 k = 0 := by
    have h : ((List.range 5).all fun k => decide (zH hZ 8 k = 0)) = true := by decide +kernel
    exact fun k hk => of_decide_eq_true (List.all_eq_true.mp h k (List.mem_range.mpr hk))
  have a39 : ∀ k, k < 25 → zH hZ 39 k = 0 := by
    have h : ((List.range 25).all fun k => decide (zH hZ 39 k = 0)) = true := by decide +kernel
    exact fun k hk => of_decide_eq_true (List.all_eq_true.mp h k (List.mem_range.mpr hk))
  have a174 : ∀ k, k < 5 → zH hZ 174 k = 0 := by
    have h : ((List.range 5).all fun k => decide (zH hZ 174 k = 0)) = true := by decide +kernel
    exact fun k hk => of_decide_eq_true (List.all_eq_true.mp h k (List.mem_range.mpr hk))
  refine ⟨Or.inl rfl, ?_, ?_, ⟨fun k hk => ?_, fun q hq => ?_, fun i v hv => absurd hv (n1 _ _ _), fun k j i v _ _ _ hv => absurd hv (n1 _ _ _), fun q hq => ?_⟩, wD_0, fun i a b ha => absurd ha (n1 _ _ _), ⟨?_, ?_, ?_, ?_⟩, fun k hk => ?_, fun k i w _ _ hv => absurd hv (n0 _ _ _), fun k j i v _ _ hv => absurd hv (n1 _ _ _)⟩
  · rw [z (by decide) (by decide) (by decide) (by decide) (by decide)]; decide +kernel
  · rw [z (by decide) (by decide) (by decide) (by decide) (by decide)]; decide +kernel
  · rw [z (by decide) (by decide) (by decide) (by decide) (by decide), cnt_I]; exact a8 k hk
  · rw [z (by decide) (by decide) (by decide) (by decide) (by decide)]
    have e : nmV dI q = 0 := by
      unfold nmV
      show (match ([] : List (List Int))[q % 5]? with
        | some w => enc 32 w
        | none => 0) = 0
      rw [List.getElem?_nil]
    rw [e]
    exact a39 q hq
  · have e : zH (hW fk f1 e1 f2 e2) 41 q = (e1 q).toInt := by
      unfold hW
      rw [zH_u (by decide), zH_u (by decide), zH_s (by decide)]
      show zso (if q < 30 then some (.int (e1 q)) else none) = _
      rw [if_pos hq]
      rfl
    have e2 : zH (hW fk f1 e1 f2 e2) (7 + 34) q = (e1 q).toInt := e
    rw [e2, he q hq]
    rfl
  · rw [z (by decide) (by decide) (by decide) (by decide) (by decide)]; decide +kernel
  · rw [z (by decide) (by decide) (by decide) (by decide) (by decide)]; decide +kernel
  · rw [z (by decide) (by decide) (by decide) (by decide) (by decide)]; decide +kernel
  · rw [z (by decide) (by decide) (by decide) (by decide) (by decide)]; decide +kernel
  · rw [z (by decide) (by decide) (by decide) (by decide) (by decide), cnt_I]; exact a174 k hk
theorem kJ_W {fk : Nat → Int64} {f1 e1 f2 e2 : Nat → Int32} (h : fk = fkT ∧ (∀ q, q < 30 → e1 q = (-1 : Int32)) ∧ (∀ q, q < 30 → e2 q = (-1 : Int32))) : kJ (hW fk f1 e1 f2 e2) := by
  refine ⟨hW_I _ _ _ _ _ h.2.1 h.2.2, Kp_W _ _ _ _ _, ⟨(0, fun _ => 0), ⟨?_, Nat.zero_le _, fun i hi => absurd hi (Nat.not_lt_zero i)⟩, ?_, Nat.zero_le _, fun i hi => absurd hi (Nat.not_lt_zero i)⟩, fun i hi => ?_, 7, dI, tld_W h.2.1⟩
  · rw [zHW_n (by decide) (by decide) (by decide) (by decide) (by decide)]; decide +kernel
  · rw [zHW_n (by decide) (by decide) (by decide) (by decide) (by decide)]; decide +kernel
  · have e : zH (hW fk f1 e1 f2 e2) 3 i = (fk i).toInt := by
      unfold hW
      rw [zH_u (by decide), zH_u (by decide), zH_u (by decide), zH_u (by decide), zH_s (by decide)]
      show zso (if i < 28 then some (.long (fk i)) else none) = _
      rw [if_pos hi]
      rfl
    rw [e, h.1, fkT_L i hi, fkT_K i hi]
theorem pr_flight {h : Ph} (x1 : Int32) (x2 : Int32) (hk : kJ h) : ∃ (v1 v2 : Int32) (h1 h2 : Ph), pm_Ex mtb (xsT 229) 229 2 1297 [.ref 0, .int x1, .int x2] h (some (.int v1)) h1 ∧ hI HTw RGw 229 h1 ∧ pm_Ex mtb (xsT 229) 229 2 1437 [.ref 172, .int x1, .int x2] h1 (some (.int v2)) h2 ∧ kJ h2 := by
  obtain ⟨v1, h1, e1, i1, p1, f1⟩ := xq_flight x1 x2 hk.1 hk.2.1
  obtain ⟨v2, h2, e2, i2, p2, f2⟩ := mq_flight x1 x2 i1 p1
  exact ⟨v1, v2, h1, h2, e1, i1, e2, i2, p2, zJ_wt (kp_fr f2 (by decide +kernel)) (zJ_wt (kp_fr f1 (by decide +kernel)) hk.2.2)⟩
theorem pr_person {h : Ph} (x1 : Int32) (x2 : Int32) (hk : kJ h) : ∃ (v1 v2 : Int32) (h1 h2 : Ph), pm_Ex mtb (xsT 229) 229 2 1307 [.ref 0, .int x1, .int x2] h (some (.int v1)) h1 ∧ hI HTw RGw 229 h1 ∧ pm_Ex mtb (xsT 229) 229 2 1488 [.ref 172, .int x1, .int x2] h1 (some (.int v2)) h2 ∧ kJ h2 := by
  obtain ⟨v1, h1, e1, i1, p1, f1⟩ := xq_person x1 x2 hk.1 hk.2.1
  obtain ⟨v2, h2, e2, i2, p2, f2⟩ := mq_person x1 x2 i1 p1
  exact ⟨v1, v2, h1, h2, e1, i1, e2, i2, p2, zJ_wt (kp_fr f2 (by decide +kernel)) (zJ_wt (kp_fr f1 (by decide +kernel)) hk.2.2)⟩
theorem pr_thing {h : Ph} (x1 : Int32) (hk : kJ h) : ∃ (v1 v2 : Int32) (h1 h2 : Ph), pm_Ex mtb (xsT 229) 229 2 1317 [.ref 0, .int x1] h (some (.int v1)) h1 ∧ hI HTw RGw 229 h1 ∧ pm_Ex mtb (xsT 229) 229 2 1519 [.ref 172, .int x1] h1 (some (.int v2)) h2 ∧ kJ h2 := by
  obtain ⟨v1, h1, e1, i1, p1, f1⟩ := xq_thing x1 hk.1 hk.2.1
  obtain ⟨v2, h2, e2, i2, p2, f2⟩ := mq_thing x1 i1 p1
  exact ⟨v1, v2, h1, h2, e1, i1, e2, i2, p2, zJ_wt (kp_fr f2 (by decide +kernel)) (zJ_wt (kp_fr f1 (by decide +kernel)) hk.2.2)⟩
theorem pr_reach {h : Ph} (x1 : Int32) (hk : kJ h) : ∃ (v1 v2 : Int32) (h1 h2 : Ph), pm_Ex mtb (xsT 229) 229 5 1310 [.ref 0, .int x1] h (some (.int v1)) h1 ∧ hI HTw RGw 229 h1 ∧ pm_Ex mtb (xsT 229) 229 4 1494 [.ref 172, .int x1] h1 (some (.int v2)) h2 ∧ kJ h2 := by
  obtain ⟨v1, h1, e1, i1, p1, f1⟩ := xq_reach x1 hk.1 hk.2.1
  obtain ⟨v2, h2, e2, i2, p2, f2⟩ := mq_reach x1 i1 p1
  exact ⟨v1, v2, h1, h2, e1, i1, e2, i2, p2, zJ_wt (kp_fr f2 (by decide +kernel)) (zJ_wt (kp_fr f1 (by decide +kernel)) hk.2.2)⟩
theorem pr_cost {h : Ph} (x1 : Int32) (x2 : Int32) (hk : kJ h) : ∃ (v1 v2 : Int32) (h1 h2 : Ph), pm_Ex mtb (xsT 229) 229 5 1286 [.ref 0, .int x1, .int x2] h (some (.int v1)) h1 ∧ hI HTw RGw 229 h1 ∧ pm_Ex mtb (xsT 229) 229 3 1427 [.ref 172, .int x1, .int x2] h1 (some (.int v2)) h2 ∧ kJ h2 := by
  obtain ⟨v1, h1, e1, i1, p1, f1⟩ := xq_cost x1 x2 hk.1 hk.2.1
  obtain ⟨v2, h2, e2, i2, p2, f2⟩ := mq_cost x1 x2 i1 p1
  exact ⟨v1, v2, h1, h2, e1, i1, e2, i2, p2, zJ_wt (kp_fr f2 (by decide +kernel)) (zJ_wt (kp_fr f1 (by decide +kernel)) hk.2.2)⟩
theorem pr_cut {h : Ph}  (hk : kJ h) : ∃ (v1 v2 : Int32) (h1 h2 : Ph), pm_Ex mtb (xsT 229) 229 7 1288 [.ref 0] h (some (.int v1)) h1 ∧ hI HTw RGw 229 h1 ∧ pm_Ex mtb (xsT 229) 229 5 1429 [.ref 172] h1 (some (.int v2)) h2 ∧ kJ h2 := by
  obtain ⟨v1, h1, e1, i1, p1, f1⟩ := xq_cut hk.1 hk.2.1
  obtain ⟨v2, h2, e2, i2, p2, f2⟩ := mq_cut  i1 p1
  exact ⟨v1, v2, h1, h2, e1, i1, e2, i2, p2, zJ_wt (kp_fr f2 (by decide +kernel)) (zJ_wt (kp_fr f1 (by decide +kernel)) hk.2.2)⟩
theorem pr_steal {h : Ph} (x1 : Int32) (hk : kJ h) : ∃ (v1 v2 : Int32) (h1 h2 : Ph), pm_Ex mtb (xsT 229) 229 4 1315 [.ref 0, .int x1] h (some (.int v1)) h1 ∧ hI HTw RGw 229 h1 ∧ pm_Ex mtb (xsT 229) 229 6 1513 [.ref 172, .int x1] h1 (some (.int v2)) h2 ∧ kJ h2 := by
  obtain ⟨v1, h1, e1, i1, p1, f1⟩ := xq_steal x1 hk.1 hk.2.1
  obtain ⟨v2, h2, e2, i2, p2, f2⟩ := mq_steal x1 i1 p1
  exact ⟨v1, v2, h1, h2, e1, i1, e2, i2, p2, zJ_wt (kp_fr f2 (by decide +kernel)) (zJ_wt (kp_fr f1 (by decide +kernel)) hk.2.2)⟩
theorem pr_build {h : Ph} (x1 : Int32) (hk : kJ h) : ∃ (v1 v2 : Int32) (h1 h2 : Ph), pm_Ex mtb (xsT 229) 229 4 1284 [.ref 0, .int x1] h (some (.int v1)) h1 ∧ hI HTw RGw 229 h1 ∧ pm_Ex mtb (xsT 229) 229 3 1415 [.ref 172, .int x1] h1 (some (.int v2)) h2 ∧ kJ h2 := by
  obtain ⟨v1, h1, e1, i1, p1, f1⟩ := xq_build x1 hk.1 hk.2.1
  obtain ⟨v2, h2, e2, i2, p2, f2⟩ := mq_build x1 i1 p1
  exact ⟨v1, v2, h1, h2, e1, i1, e2, i2, p2, zJ_wt (kp_fr f2 (by decide +kernel)) (zJ_wt (kp_fr f1 (by decide +kernel)) hk.2.2)⟩
theorem pr_go {h : Ph} (x1 : Int32) (x2 : Int32) (hk : kJ h) : ∃ (v1 v2 : Int32) (h1 h2 : Ph), pm_Ex mtb (xsT 229) 229 6 1299 [.ref 0, .int x1, .int x2] h (some (.int v1)) h1 ∧ hI HTw RGw 229 h1 ∧ pm_Ex mtb (xsT 229) 229 5 1441 [.ref 172, .int x1, .int x2] h1 (some (.int v2)) h2 ∧ kJ h2 := by
  obtain ⟨v1, h1, e1, i1, p1, f1⟩ := xq_go x1 x2 hk.1 hk.2.1
  obtain ⟨v2, h2, e2, i2, p2, f2⟩ := mq_go x1 x2 i1 p1
  exact ⟨v1, v2, h1, h2, e1, i1, e2, i2, p2, zJ_wt (kp_fr f2 (by decide +kernel)) (zJ_wt (kp_fr f1 (by decide +kernel)) hk.2.2)⟩
theorem pr_carry {h : Ph} (x1 : Int32) (x2 : Int32) (x3 : Int32) (hk : kJ h) : ∃ (v1 v2 : Int32) (h1 h2 : Ph), pm_Ex mtb (xsT 229) 229 6 1285 [.ref 0, .int x1, .int x2, .int x3] h (some (.int v1)) h1 ∧ hI HTw RGw 229 h1 ∧ pm_Ex mtb (xsT 229) 229 4 1423 [.ref 172, .int x1, .int x2, .int x3] h1 (some (.int v2)) h2 ∧ kJ h2 := by
  obtain ⟨v1, h1, e1, i1, p1, f1⟩ := xq_carry x1 x2 x3 hk.1 hk.2.1
  obtain ⟨v2, h2, e2, i2, p2, f2⟩ := mq_carry x1 x2 x3 i1 p1
  exact ⟨v1, v2, h1, h2, e1, i1, e2, i2, p2, zJ_wt (kp_fr f2 (by decide +kernel)) (zJ_wt (kp_fr f1 (by decide +kernel)) hk.2.2)⟩
theorem pr_night {h : Ph}  (hk : kJ h) : ∃ (v1 v2 : Int32) (h1 h2 : Ph), pm_Ex mtb (xsT 229) 229 3 1303 [.ref 0] h (some (.int v1)) h1 ∧ hI HTw RGw 229 h1 ∧ pm_Ex mtb (xsT 229) 229 3 1483 [.ref 172] h1 (some (.int v2)) h2 ∧ kJ h2 := by
  obtain ⟨v1, h1, e1, i1, p1, f1⟩ := xq_night hk.1 hk.2.1
  obtain ⟨v2, h2, e2, i2, p2, f2⟩ := mq_night  i1 p1
  exact ⟨v1, v2, h1, h2, e1, i1, e2, i2, p2, zJ_wt (kp_fr f2 (by decide +kernel)) (zJ_wt (kp_fr f1 (by decide +kernel)) hk.2.2)⟩
theorem pr_undo {h : Ph}  (hk : kJ h) : ∃ (v1 v2 : Int32) (h1 h2 : Ph), pm_Ex mtb (xsT 229) 229 3 1319 [.ref 0] h (some (.int v1)) h1 ∧ hI HTw RGw 229 h1 ∧ pm_Ex mtb (xsT 229) 229 2 1522 [.ref 172] h1 (some (.int v2)) h2 ∧ kJ h2 := by
  obtain ⟨v1, h1, e1, i1, p1, f1⟩ := xq_undo hk.1 hk.2.1
  obtain ⟨v2, h2, e2, i2, p2, f2⟩ := mq_undo  i1 p1
  exact ⟨v1, v2, h1, h2, e1, i1, e2, i2, p2, zJ_wt (kp_fr f2 (by decide +kernel)) (zJ_wt (kp_fr f1 (by decide +kernel)) hk.2.2)⟩
theorem pr_judged {h : Ph} (x1 : Int32) (hk : kJ h) : ∃ (v1 v2 : Int32) (h1 h2 : Ph), pm_Ex mtb (xsT 229) 229 7 1300 [.ref 0, .int x1] h (some (.int v1)) h1 ∧ hI HTw RGw 229 h1 ∧ pm_Ex mtb (xsT 229) 229 7 1460 [.ref 172, .int x1] h1 (some (.int v2)) h2 ∧ kJ h2 := by
  obtain ⟨v1, h1, e1, i1, p1, f1⟩ := xq_judged x1 hk.1 hk.2.1
  obtain ⟨v2, h2, e2, i2, p2, f2⟩ := mq_judged x1 i1 p1
  exact ⟨v1, v2, h1, h2, e1, i1, e2, i2, p2, zJ_wt (kp_fr f2 (by decide +kernel)) (zJ_wt (kp_fr f1 (by decide +kernel)) hk.2.2)⟩
theorem pr_alone {h : Ph} (x1 : Int32) (hk : kJ h) : ∃ (v1 v2 : Int32) (h1 h2 : Ph), pm_Ex mtb (xsT 229) 229 6 1282 [.ref 0, .int x1] h (some (.int v1)) h1 ∧ hI HTw RGw 229 h1 ∧ pm_Ex mtb (xsT 229) 229 4 1410 [.ref 172, .int x1] h1 (some (.int v2)) h2 ∧ kJ h2 := by
  obtain ⟨v1, h1, e1, i1, p1, f1⟩ := xq_alone x1 hk.1 hk.2.1
  obtain ⟨v2, h2, e2, i2, p2, f2⟩ := mq_alone x1 i1 p1
  exact ⟨v1, v2, h1, h2, e1, i1, e2, i2, p2, zJ_wt (kp_fr f2 (by decide +kernel)) (zJ_wt (kp_fr f1 (by decide +kernel)) hk.2.2)⟩
theorem pr_plan {h : Ph} (x1 : Int32) (hk : kJ h) : ∃ (v1 v2 : Int32) (h1 h2 : Ph), pm_Ex mtb (xsT 229) 229 7 1308 [.ref 0, .int x1] h (some (.int v1)) h1 ∧ hI HTw RGw 229 h1 ∧ pm_Ex mtb (xsT 229) 229 5 1490 [.ref 172, .int x1] h1 (some (.int v2)) h2 ∧ kJ h2 := by
  obtain ⟨v1, h1, e1, i1, p1, f1⟩ := xq_plan x1 hk.1 hk.2.1
  obtain ⟨v2, h2, e2, i2, p2, f2⟩ := mq_plan x1 i1 p1
  exact ⟨v1, v2, h1, h2, e1, i1, e2, i2, p2, zJ_wt (kp_fr f2 (by decide +kernel)) (zJ_wt (kp_fr f1 (by decide +kernel)) hk.2.2)⟩
theorem pr_thefts {h : Ph} (x1 : Int32) (x2 : Int32) (x3 : Int32) (hk : kJ h) : ∃ (v1 v2 : Int32) (h1 h2 : Ph), pm_Ex mtb (xsT 229) 229 7 1316 [.ref 0, .int x1, .int x2, .int x3] h (some (.int v1)) h1 ∧ hI HTw RGw 229 h1 ∧ pm_Ex mtb (xsT 229) 229 5 1518 [.ref 172, .int x1, .int x2, .int x3] h1 (some (.int v2)) h2 ∧ kJ h2 := by
  obtain ⟨v1, h1, e1, i1, p1, f1⟩ := xq_thefts x1 x2 x3 hk.1 hk.2.1
  obtain ⟨v2, h2, e2, i2, p2, f2⟩ := mq_thefts x1 x2 x3 i1 p1
  exact ⟨v1, v2, h1, h2, e1, i1, e2, i2, p2, zJ_wt (kp_fr f2 (by decide +kernel)) (zJ_wt (kp_fr f1 (by decide +kernel)) hk.2.2)⟩
theorem pr_see {h : Ph} (x1 : Int32) (x2 : Int32) (x3 : Int32) (bx3 : x3 = 0 ∨ x3 = 1) (hk : kJ h) : ∃ (v1 v2 : Int32) (h1 h2 : Ph), pm_Ex mtb (xsT 229) 229 5 1313 [.ref 0, .int x1, .int x2, .int x3] h (some (.int v1)) h1 ∧ hI HTw RGw 229 h1 ∧ pm_Ex mtb (xsT 229) 229 2 1508 [.ref 172, .int x1, .int x2, .int x3] h1 (some (.int v2)) h2 ∧ kJ h2 := by
  obtain ⟨v1, h1, e1, i1, p1, f1⟩ := xq_see x1 x2 x3 bx3 hk.1 hk.2.1
  obtain ⟨v2, h2, e2, i2, p2, f2⟩ := mq_see x1 x2 x3 bx3 i1 p1
  exact ⟨v1, v2, h1, h2, e1, i1, e2, i2, p2, zJ_wt (kp_fr f2 (by decide +kernel)) (zJ_wt (kp_fr f1 (by decide +kernel)) hk.2.2)⟩
theorem pr_fits {h : Ph} (x1 : Int32) (hk : kJ h) : ∃ (v1 v2 : Int32) (h1 h2 : Ph), pm_Ex mtb (xsT 229) 229 2 1296 [.ref 0, .int x1] h (some (.int v1)) h1 ∧ hI HTw RGw 229 h1 ∧ pm_Ex mtb (xsT 229) 229 4 1436 [.ref 172, .int x1] h1 (some (.int v2)) h2 ∧ kJ h2 := by
  obtain ⟨v1, h1, e1, i1, p1, f1⟩ := xq_fits x1 hk.1 hk.2.1
  obtain ⟨v2, h2, e2, i2, p2, f2⟩ := mq_fits x1 i1 p1
  exact ⟨v1, v2, h1, h2, e1, i1, e2, i2, p2, zJ_wt (kp_fr f2 (by decide +kernel)) (zJ_wt (kp_fr f1 (by decide +kernel)) hk.2.2)⟩
theorem pr_orders {h : Ph} (x1 : Int32) (hk : kJ h) : ∃ (v1 v2 : Int32) (h1 h2 : Ph), pm_Ex mtb (xsT 229) 229 4 1305 [.ref 0, .int x1] h (some (.int v1)) h1 ∧ hI HTw RGw 229 h1 ∧ pm_Ex mtb (xsT 229) 229 13 1486 [.ref 172, .int x1] h1 (some (.int v2)) h2 ∧ kJ h2 := by
  obtain ⟨v1, h1, e1, i1, p1, f1⟩ := xq_orders x1 hk.1 hk.2.1
  obtain ⟨v2, h2, e2, i2, p2, f2⟩ := mq_orders x1 i1 p1
  exact ⟨v1, v2, h1, h2, e1, i1, e2, i2, p2, zJ_wt (kp_fr f2 (by decide +kernel)) (zJ_wt (kp_fr f1 (by decide +kernel)) hk.2.2)⟩
theorem pr_post {h : Ph} (x1 : Int32) (x2 : Int32) (hk : kJ h) : ∃ (v1 v2 : Int32) (h1 h2 : Ph), pm_Ex mtb (xsT 229) 229 3 1309 [.ref 0, .int x1, .int x2] h (some (.int v1)) h1 ∧ hI HTw RGw 229 h1 ∧ pm_Ex mtb (xsT 229) 229 3 1491 [.ref 172, .int x1, .int x2] h1 (some (.int v2)) h2 ∧ kJ h2 := by
  obtain ⟨v1, h1, e1, i1, p1, f1⟩ := xq_post x1 x2 hk.1 hk.2.1
  obtain ⟨v2, h2, e2, i2, p2, f2⟩ := mq_post x1 x2 i1 p1
  exact ⟨v1, v2, h1, h2, e1, i1, e2, i2, p2, zJ_wt (kp_fr f2 (by decide +kernel)) (zJ_wt (kp_fr f1 (by decide +kernel)) hk.2.2)⟩
theorem pr_watch {h : Ph}  (hk : kJ h) : ∃ (v1 v2 : Int32) (h1 h2 : Ph), pm_Ex mtb (xsT 229) 229 4 1320 [.ref 0] h (some (.int v1)) h1 ∧ hI HTw RGw 229 h1 ∧ pm_Ex mtb (xsT 229) 229 4 1523 [.ref 172] h1 (some (.int v2)) h2 ∧ kJ h2 := by
  obtain ⟨v1, h1, e1, i1, p1, f1⟩ := xq_watch hk.1 hk.2.1
  obtain ⟨v2, h2, e2, i2, p2, f2⟩ := mq_watch  i1 p1
  exact ⟨v1, v2, h1, h2, e1, i1, e2, i2, p2, zJ_wt (kp_fr f2 (by decide +kernel)) (zJ_wt (kp_fr f1 (by decide +kernel)) hk.2.2)⟩
theorem pr_live {h : Ph} (x1 : Int32) (x2 : Int32) (x3 : Int32) (hk : kJ h) : ∃ (v1 v2 : Int32) (h1 h2 : Ph), pm_Ex mtb (xsT 229) 229 6 1301 [.ref 0, .int x1, .int x2, .int x3] h (some (.int v1)) h1 ∧ hI HTw RGw 229 h1 ∧ pm_Ex mtb (xsT 229) 229 5 1468 [.ref 172, .int x1, .int x2, .int x3] h1 (some (.int v2)) h2 ∧ kJ h2 := by
  obtain ⟨v1, h1, e1, i1, p1, f1⟩ := xq_live x1 x2 x3 hk.1 hk.2.1
  obtain ⟨v2, h2, e2, i2, p2, f2⟩ := mq_live x1 x2 x3 i1 p1
  exact ⟨v1, v2, h1, h2, e1, i1, e2, i2, p2, zJ_wt (kp_fr f2 (by decide +kernel)) (zJ_wt (kp_fr f1 (by decide +kernel)) hk.2.2)⟩
theorem pr_best {h : Ph} (x1 : Int32) (x2 : Int32) (hk : kJ h) : ∃ (v1 v2 : Int32) (h1 h2 : Ph), pm_Ex mtb (xsT 229) 229 5 1283 [.ref 0, .int x1, .int x2] h (some (.int v1)) h1 ∧ hI HTw RGw 229 h1 ∧ pm_Ex mtb (xsT 229) 229 5 1412 [.ref 172, .int x1, .int x2] h1 (some (.int v2)) h2 ∧ kJ h2 := by
  obtain ⟨v1, h1, e1, i1, p1, f1⟩ := xq_best x1 x2 hk.1 hk.2.1
  obtain ⟨v2, h2, e2, i2, p2, f2⟩ := mq_best x1 x2 i1 p1
  exact ⟨v1, v2, h1, h2, e1, i1, e2, i2, p2, zJ_wt (kp_fr f2 (by decide +kernel)) (zJ_wt (kp_fr f1 (by decide +kernel)) hk.2.2)⟩
theorem pr_years {h : Ph} (x1 : Int32) (x2 : Int32) (x3 : Int32) (hk : kJ h) : ∃ (v1 v2 : Int32) (h1 h2 : Ph), pm_Ex mtb (xsT 229) 229 7 1321 [.ref 0, .int x1, .int x2, .int x3] h (some (.int v1)) h1 ∧ hI HTw RGw 229 h1 ∧ pm_Ex mtb (xsT 229) 229 7 1528 [.ref 172, .int x1, .int x2, .int x3] h1 (some (.int v2)) h2 ∧ kJ h2 := by
  obtain ⟨v1, h1, e1, i1, p1, f1⟩ := xq_years x1 x2 x3 hk.1 hk.2.1
  obtain ⟨v2, h2, e2, i2, p2, f2⟩ := mq_years x1 x2 x3 i1 p1
  exact ⟨v1, v2, h1, h2, e1, i1, e2, i2, p2, zJ_wt (kp_fr f2 (by decide +kernel)) (zJ_wt (kp_fr f1 (by decide +kernel)) hk.2.2)⟩
theorem pr_mark {h : Ph} (x1 : Int32) (x2 : Int32) (bx2 : x2 = 0 ∨ x2 = 1) (hk : kJ h) : ∃ (v1 v2 : Int32) (h1 h2 : Ph), pm_Ex mtb (xsT 229) 229 3 1302 [.ref 0, .int x1, .int x2] h (some (.int v1)) h1 ∧ hI HTw RGw 229 h1 ∧ pm_Ex mtb (xsT 229) 229 2 1472 [.ref 172, .int x1, .int x2] h1 (some (.int v2)) h2 ∧ kJ h2 := by
  obtain ⟨v1, h1, e1, i1, p1, f1⟩ := xq_mark x1 x2 bx2 hk.1 hk.2.1
  obtain ⟨v2, h2, e2, i2, p2, f2⟩ := mq_mark x1 x2 bx2 i1 p1
  exact ⟨v1, v2, h1, h2, e1, i1, e2, i2, p2, zJ_wt (kp_fr f2 (by decide +kernel)) (zJ_wt (kp_fr f1 (by decide +kernel)) hk.2.2)⟩
theorem pr_count {h : Ph} (x1 : Int32) (hk : kJ h) : ∃ (v1 v2 : Int32) (h1 h2 : Ph), pm_Ex mtb (xsT 229) 229 2 1287 [.ref 0, .int x1] h (some (.int v1)) h1 ∧ hI HTw RGw 229 h1 ∧ pm_Ex mtb (xsT 229) 229 2 1428 [.ref 172, .int x1] h1 (some (.int v2)) h2 ∧ kJ h2 := by
  obtain ⟨v1, h1, e1, i1, p1, f1⟩ := xq_count x1 hk.1 hk.2.1
  obtain ⟨v2, h2, e2, i2, p2, f2⟩ := mq_count x1 i1 p1
  exact ⟨v1, v2, h1, h2, e1, i1, e2, i2, p2, zJ_wt (kp_fr f2 (by decide +kernel)) (zJ_wt (kp_fr f1 (by decide +kernel)) hk.2.2)⟩
theorem pr_rests {h : Ph} (x1 : Int32) (x2 : Int32) (x3 : Int32) (x4 : Int32) (hk : kJ h) : ∃ (v2 : Int32) (h2 : Ph), pm_Ex mtb (xsT 229) 229 2 1506 [.ref 172, .int x1, .int x2, .int x3, .int x4] h (some (.int v2)) h2 ∧ kJ h2 := by
  obtain ⟨v2, h2, e2, i2, p2, f2⟩ := mq_rests x1 x2 x3 x4 hk.1 hk.2.1
  exact ⟨v2, h2, e2, i2, p2, zJ_wt (kp_fr f2 (by decide +kernel)) hk.2.2⟩
/-- what a method that writes on the tape alone keeps -/
def wtF (md : Md) : Bool := wtB ([(0, 3, 5), (3, 0, 28)] ++ mcl) md && wtC tcl md
theorem kpF {md : Md} {h h' : Ph} (hf : fr md h h') (hb : wtF md = true) : (∀ c j, cov ([(0, 3, 5), (3, 0, 28)] ++ mcl) c j → zH h' c j = zH h c j) ∧ ∀ c, c ∈ tcl → ∀ j, zH h' c j = zH h c j := by
  unfold wtF at hb
  rw [Bool.and_eq_true] at hb
  exact ⟨fun c j hw => zH_wt hf hb.1 hw, fun c hc j => zH_fr hf (wtC_ok hb.2 hc)⟩
theorem cf8 {c j : Nat} (h1 : 174 ≤ c) (h2 : c ≤ 191) (h3 : j < hbf c) : cov ([(0, 3, 5), (3, 0, 28)] ++ mcl) c j := ⟨(c, 0, hbf c), List.mem_append_right _ (List.mem_map.mpr ⟨c - 174, List.mem_range.mpr (by omega), by rw [show 174 + (c - 174) = c by omega]⟩), rfl, Nat.zero_le _, h3⟩
theorem tld_F {md : Md} {h h' : Ph} {t : Nat} {D : ZD} (w : tldS (zH h) t D) (hf : fr md h h') (hb : wtF md = true) : tldS (zH h') t D := by
  have e := kpF hf hb
  have ht := w.1
  refine tld_keep w (fun j hj => ?_) (fun c j a b u v => e.2 c (tcl_in (by omega)) j) (fun c j a b d => e.1 c j (cf8 a b d))
  rcases hj with rfl | rfl
  · exact e.1 0 3 ⟨(0, 3, 5), by decide, by decide⟩
  · exact e.1 0 4 ⟨(0, 3, 5), by decide, by decide⟩
theorem kw_F {md : Md} {h h' : Ph} (k : ∀ i, i < 28 → zH h 3 i = enc 32 (KW i)) (hf : fr md h h') (hb : wtF md = true) : ∀ i, i < 28 → zH h' 3 i = enc 32 (KW i) := fun i hi => by
  rw [(kpF hf hb).1 3 i ⟨(3, 0, 28), by decide, rfl, Nat.zero_le _, hi⟩]; exact k i hi
theorem zv1 {v : Int32} {x : Int} {l : List Zv} (h : (some (Value.int v)).toList.map zvl = (x, 0) :: l) : v.toInt = x := by
  have h : [(v.toInt, 0)] = (x, 0) :: l := h
  cases h
  rfl
theorem pr_feed {h : Ph} (x1 x2 x3 : Int64) (hk : kJ h) : ∃ (v1 v2 : Int32) (h1 h2 : Ph), pm_Ex mtb (xsT 229) 229 2 1291 [.ref 0, .long x1, .long x2, .long x3] h (some (.int v1)) h1 ∧ hI HTw RGw 229 h1 ∧ pm_Ex mtb (xsT 229) 229 1 1434 [.ref 172, .long x1, .long x2, .long x3] h1 (some (.int v2)) h2 ∧ kJ h2 := by
  obtain ⟨v1, h1, e1, i1, p1, f1⟩ := xq_feed x1 x2 x3 hk.1 hk.2.1
  obtain ⟨v2, h2, e2, i2, p2, f2⟩ := mq_feed x1 x2 x3 i1 p1
  obtain ⟨⟨a, t1, t2⟩, k, t, D, w⟩ := hk.2.2
  obtain ⟨-, g1, d1⟩ := zC_run e1 (by decide +kernel) hk.2.1 (fun n => feed_c (v1 := x1.toInt) (v2 := x2.toInt) (v3 := x3.toInt) t1)
  have d1 : frD (zH h) (zH h1) := d1
  have g1 : tpC (zH h1) _ := g1
  have t3 : tpM (zH h1) a := ⟨by rw [d1 172 1 (by decide) (by decide)]; exact t2.1, t2.2.1, fun i hi => by rw [d1 173 i (by omega) (by omega)]; exact t2.2.2 i hi⟩
  obtain ⟨-, g2⟩ := zC_run e2 (by decide +kernel) p1 (fun n => feed_m (v1 := x1.toInt) (v2 := x2.toInt) (v3 := x3.toInt) t3)
  have z : ∀ c j, cov [(1, 0, 1), (2, 0, 1000)] c j → zH h2 c j = zH h1 c j := fun c j hw => zH_wt f2 (by decide +kernel) hw
  refine ⟨v1, v2, h1, h2, e1, i1, e2, i2, p2, ⟨_, ⟨?_, g1.2.1, fun i hi => ?_⟩, g2⟩, kw_F (kw_F k f1 (by decide +kernel)) f2 (by decide +kernel), t, D, tld_F (tld_F w f1 (by decide +kernel)) f2 (by decide +kernel)⟩
  · rw [z 1 0 ⟨(1, 0, 1), by decide, by decide⟩]; exact g1.1
  · rw [z 2 i ⟨(2, 0, 1000), by decide, rfl, Nat.zero_le _, Nat.lt_of_lt_of_le hi g1.2.1⟩]; exact g1.2.2 i hi
theorem pr_nights {h : Ph} (hk : kJ h) : ∃ (v1 v2 : Int32) (h1 h2 : Ph), pm_Ex mtb (xsT 229) 229 10 1304 [.ref 0] h (some (.int v1)) h1 ∧ hI HTw RGw 229 h1 ∧ pm_Ex mtb (xsT 229) 229 6 1484 [.ref 172] h1 (some (.int v2)) h2 ∧ kJ h2 ∧ v1 = v2 := by
  obtain ⟨v1, h1, e1, i1, p1, f1⟩ := xq_nights hk.1 hk.2.1
  obtain ⟨v2, h2, e2, i2, p2, f2⟩ := mq_nights i1 p1
  obtain ⟨⟨a, t1, t2⟩, k, t, D, w⟩ := hk.2.2
  have w0 := w
  obtain ⟨ht, h3, h4, hd, hw, hF, hh, hm⟩ := w0
  obtain ⟨-, g1, g2, -⟩ := zC_run e1 (by decide +kernel) hk.2.1 (fun n => nights_c (T := a.2) (n := a.1) ht h3 ⟨t1.1, t1.2.1, t1.2.2, k⟩ hd hw hh zM_H)
  have z1 : ∀ c j, cov [(172, 1, 2), (173, 0, 1000)] c j → zH h1 c j = zH h c j := fun c j hw => zH_wt f1 (by decide +kernel) hw
  have t3 : tpM (zH h1) a := ⟨by rw [z1 172 1 ⟨(172, 1, 2), by decide, by decide⟩]; exact t2.1, t2.2.1, fun i hi => by rw [z1 173 i ⟨(173, 0, 1000), by decide, rfl, Nat.zero_le _, Nat.lt_of_lt_of_le hi t2.2.1⟩]; exact t2.2.2 i hi⟩
  have w1 := tld_F w f1 (by decide +kernel)
  obtain ⟨-, g5, g6, -⟩ := zC_run e2 (by decide +kernel) p1 (fun n => nights_m (T := a.2) (n := a.1) (D := D) t3.1 t3.2.1 t3.2.2 w1.2.2.2.2.2.2.2 hw hF)
  have z : ∀ c j, cov [(1, 0, 1)] c j → zH h2 c j = zH h1 c j := fun c j hw => zH_wt f2 (by decide +kernel) hw
  refine ⟨v1, v2, h1, h2, e1, i1, e2, ⟨i2, p2, ⟨(0, fun _ => 0), ⟨?_, Nat.zero_le _, fun i hi => absurd hi (Nat.not_lt_zero i)⟩, g6, Nat.zero_le _, fun i hi => absurd hi (Nat.not_lt_zero i)⟩, kw_F (kw_F k f1 (by decide +kernel)) f2 (by decide +kernel), t, D, tld_F w1 f2 (by decide +kernel)⟩, ?_⟩
  · rw [z 1 0 ⟨(1, 0, 1), by decide, by decide⟩]; exact g2
  · exact Int32.toInt_inj.mp ((zv1 g1).trans (zv1 g5).symm)
theorem pr_town {h : Ph} (hk : kJ h) : ∃ (v1 v2 : Int32) (h1 h2 : Ph), pm_Ex mtb (xsT 229) 229 40 1318 [.ref 0] h (some (.int v1)) h1 ∧ hI HTw RGw 229 h1 ∧ pm_Ex mtb (xsT 229) 229 7 1521 [.ref 172] h1 (some (.int v2)) h2 ∧ kJ h2 ∧ v1 = v2 := by
  obtain ⟨v1, h1, e1, i1, p1, f1⟩ := xq_town hk.1 hk.2.1
  obtain ⟨v2, h2, e2, i2, p2, f2⟩ := mq_town i1 p1
  obtain ⟨⟨a, t1, t2⟩, k, t, D, w⟩ := hk.2.2
  have ht := w.1
  have ht2 : 50 - t = 7 ∨ 50 - t = 43 := by omega
  obtain ⟨-, g1, g2, g3, g4, g7⟩ := zC_run e1 (by decide +kernel) hk.2.1 (fun n => townE_c (T := a.2) (n := a.1) ht2 w.2.2.1 ⟨t1.1, t1.2.1, t1.2.2, k⟩ zM_H)
  have z1 : ∀ c j, cov ([(172, 1, 2), (173, 0, 1000)] ++ mcl) c j → zH h1 c j = zH h c j := fun c j hw => zH_wt f1 (by decide +kernel) hw
  have z1m : ∀ c j, 174 ≤ c → c ≤ 191 → j < hbf c → zH h1 c j = zH h c j := fun c j a b d => z1 c j ⟨(c, 0, hbf c), List.mem_append_right _ (List.mem_map.mpr ⟨c - 174, List.mem_range.mpr (by omega), by rw [show 174 + (c - 174) = c by omega]⟩), rfl, Nat.zero_le _, d⟩
  have t3 : tpM (zH h1) a := ⟨by rw [z1 172 1 ⟨(172, 1, 2), by decide, by decide⟩]; exact t2.1, t2.2.1, fun i hi => by rw [z1 173 i ⟨(173, 0, 1000), by decide, rfl, Nat.zero_le _, Nat.lt_of_lt_of_le hi t2.2.1⟩]; exact t2.2.2 i hi⟩
  obtain ⟨-, g5, g6, g8, g9⟩ := zC_run e2 (by decide +kernel) p1 (fun n => townE_m (T := a.2) (n := a.1) t3.1 t3.2.1 t3.2.2)
  have zc : ∀ c, c ∈ [0, 1, 3] ++ tcl → ∀ j, zH h2 c j = zH h1 c j := fun c hc j => zH_fr f2 (wtC_ok (cs := [0, 1, 3] ++ tcl) (by decide +kernel) hc)
  have k2 : ∀ i, i < 28 → zH h2 3 i = enc 32 (KW i) := fun i hi => by
    rw [zc 3 (by decide) i]; exact (g3 i).trans (k i hi)
  have ev : v1 = v2 := Int32.toInt_inj.mp ((zv1 g1).trans (zv1 g5).symm)
  generalize pAll a.2 a.1 1000 (0, 0) d0 = y at g1 g4 g7 g8 g9
  have tl : ∃ t' D', tldS (zH h2) t' D' := by
    by_cases hy : y.1.1 = 0
    · obtain ⟨q1, q2, q3, q4, q5, q6⟩ := g7 hy
      obtain ⟨m1, m2, m3, m4, m5⟩ := g9 hy
      have q1 : zH h1 0 3 = zH h 0 4 := q1
      have q2 : zH h1 0 4 = zH h 0 3 := q2
      have q3 : cDn (zH h1) (50 - t) y.2 := q3
      have q5 : cDh (zH h1) (50 - t) (clD y.2) := q5
      have m1 : mT (zH h2) y.2 := m1
      refine ⟨50 - t, clD y.2, ht2, ?_, ?_, cDn_e (D := clD y.2) q3 q4 (fun c j hc => zc c (List.mem_append_right _ (tcl_in (by omega))) j), q4, m3, ?_, m1⟩
      · rw [zc 0 (by decide) 3, q1]; exact w.2.2.1
      · rw [zc 0 (by decide) 4, q2, show 50 - (50 - t) = t by omega]; exact w.2.1
      · obtain ⟨b1, b2, b3, b4⟩ := q5
        unfold cDh
        rw [zc _ (List.mem_append_right _ (tcl_in (by omega))), zc _ (List.mem_append_right _ (tcl_in (by omega))), zc _ (List.mem_append_right _ (tcl_in (by omega)))]
        exact ⟨b1, b2, b3, b4⟩
    · have q : ∀ c j, c ≠ 1 → ¬ (50 - t ≤ c ∧ c ≤ 50 - t + 35) → zH h1 c j = zH h c j := g4 hy
      have m : ∀ c j, 174 ≤ c → c ≤ 191 → j < hbf c → zH h2 c j = zH h1 c j := g8 hy
      refine ⟨t, D, tld_keep w (fun j hj => ?_) (fun c j a b u v => ?_) (fun c j a b d => (m c j a b d).trans (z1m c j a b d))⟩
      · rw [zc 0 (by decide) j, q 0 j (by omega) (by omega)]
      · rw [zc c (List.mem_append_right _ (tcl_in (by omega))) j, q c j (by omega) (by omega)]
  refine ⟨v1, v2, h1, h2, e1, i1, e2, ⟨i2, p2, ⟨(0, fun _ => 0), ⟨?_, Nat.zero_le _, fun i hi => absurd hi (Nat.not_lt_zero i)⟩, g6, Nat.zero_le _, fun i hi => absurd hi (Nat.not_lt_zero i)⟩, k2, tl⟩, ev⟩
  rw [zc 1 (by decide) 0]; exact g2
