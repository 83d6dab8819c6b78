/-! what is held between calls of the law, and each method called on both sides -/
def zJ (s : Zs) : Prop := (∃ a, tpC s a ∧ tpM s a) ∧ (∀ i, i < 28 → s 3 i = enc 32 (KW i)) ∧ ((s 0 3 = 7 ∧ s 0 4 = 43) ∨ (s 0 3 = 43 ∧ s 0 4 = 7))
def zJW : Md := [(0, 3, 5), (1, 0, 1), (2, 0, 1000), (3, 0, 28), (172, 1, 2), (173, 0, 1000)]
theorem cw1 : cov zJW 0 3 := ⟨(0, 3, 5), by decide, by decide⟩
theorem cw2 : cov zJW 0 4 := ⟨(0, 3, 5), by decide, by decide⟩
theorem cw3 : cov zJW 1 0 := ⟨(1, 0, 1), by decide, by decide⟩
theorem cw4 {i : Nat} (h : i < 1000) : cov zJW 2 i := ⟨(2, 0, 1000), by decide, rfl, Nat.zero_le _, h⟩
theorem cw5 {i : Nat} (h : i < 28) : cov zJW 3 i := ⟨(3, 0, 28), by decide, rfl, Nat.zero_le _, h⟩
theorem cw6 : cov zJW 172 1 := ⟨(172, 1, 2), by decide, by decide⟩
theorem cw7 {i : Nat} (h : i < 1000) : cov zJW 173 i := ⟨(173, 0, 1000), by decide, rfl, Nat.zero_le _, h⟩
theorem zJ_wt {s s' : Zs} (e : ∀ c j, cov zJW c j → s' c j = s c j) (h : zJ s) : zJ s' := by
  obtain ⟨⟨a, ⟨p1, p2, p3⟩, q1, q2, q3⟩, k, w⟩ := h
  refine ⟨⟨a, ⟨?_, p2, fun i hi => ?_⟩, ?_, q2, fun i hi => ?_⟩, fun i hi => ?_, ?_⟩
  · rw [e _ _ cw3]; exact p1
  · rw [e _ _ (cw4 (by omega))]; exact p3 i hi
  · rw [e _ _ cw6]; exact q1
  · rw [e _ _ (cw7 (by omega))]; exact q3 i hi
  · rw [e _ _ (cw5 hi)]; exact k i hi
  · rw [e _ _ cw1, e _ _ cw2]; exact w
def kJ (h : Ph) : Prop := hI HTw RGw 229 h ∧ Kp h ∧ zJ (zH h)
theorem kJ_fr {h h' : Ph} (hk : kJ h) (hi : hI HTw RGw 229 h') (hf : fr [] h h') : kJ h' := ⟨hi, Kp_fr hk.2.1 hk.1 hi hf, by rw [zH_fr0 hf]; exact hk.2.2⟩
theorem zM_H {h : Ph} : zM (zH h) := fun j => if_pos rfl
theorem fkT_K : ∀ i, i < 28 → (FKL.getD i 0).toInt = enc 32 (KW i) := by decide +kernel
theorem zHW_n {fk : Nat → Int64} {f1 e1 f2 e2 : Nat → Int32} {c j : Nat} (h1 : c ≠ 3) (h2 : c ≠ 37) (h3 : c ≠ 41) (h4 : c ≠ 73) (h5 : c ≠ 77) : zH (hW fk f1 e1 f2 e2) c j = zH hZ c j := by
  unfold hW
  rw [zH_u h5, zH_u h4, zH_u h3, zH_u h2, zH_u h1]
theorem kJ_W {fk : Nat → Int64} {f1 e1 f2 e2 : Nat → Int32} (h : fk = fkT ∧ (∀ q, q < 30 → e1 q = (-1 : Int32)) ∧ (∀ q, q < 30 → e2 q = (-1 : Int32))) : kJ (hW fk f1 e1 f2 e2) := by
  refine ⟨hW_I _ _ _ _ _ h.2.1 h.2.2, Kp_W _ _ _ _ _, ⟨(0, fun _ => 0), ⟨?_, Nat.zero_le _, fun i hi => absurd hi (Nat.not_lt_zero i)⟩, ?_, Nat.zero_le _, fun i hi => absurd hi (Nat.not_lt_zero i)⟩, fun i hi => ?_, Or.inl ⟨?_, ?_⟩⟩
  · rw [zHW_n (by decide) (by decide) (by decide) (by decide) (by decide)]; decide +kernel
  · rw [zHW_n (by decide) (by decide) (by decide) (by decide) (by decide)]; decide +kernel
  · have e : zH (hW fk f1 e1 f2 e2) 3 i = (fk i).toInt := by
      unfold hW
      rw [zH_u (by decide), zH_u (by decide), zH_u (by decide), zH_u (by decide), zH_s (by decide)]
      show zso (if i < 28 then some (.long (fk i)) else none) = _
      rw [if_pos hi]
      rfl
    rw [e, h.1, fkT_L i hi, fkT_K i hi]
  · rw [zHW_n (by decide) (by decide) (by decide) (by decide) (by decide)]; decide +kernel
  · rw [zHW_n (by decide) (by decide) (by decide) (by decide) (by decide)]; decide +kernel
theorem pr_flight {h : Ph} (x1 : Int32) (x2 : Int32) (hk : kJ h) : ∃ (v1 v2 : Int32) (h1 h2 : Ph), pm_Ex mtb (xsT 229) 229 2 1297 [.ref 0, .int x1, .int x2] h (some (.int v1)) h1 ∧ hI HTw RGw 229 h1 ∧ pm_Ex mtb (xsT 229) 229 2 1437 [.ref 172, .int x1, .int x2] h1 (some (.int v2)) h2 ∧ kJ h2 := by
  obtain ⟨v1, h1, e1, i1, p1, f1⟩ := xq_flight x1 x2 hk.1 hk.2.1
  obtain ⟨v2, h2, e2, i2, p2, f2⟩ := mq_flight x1 x2 i1 p1
  exact ⟨v1, v2, h1, h2, e1, i1, e2, i2, p2, zJ_wt (fun c j hw => zH_wt f2 (by decide +kernel) hw) (zJ_wt (fun c j hw => zH_wt f1 (by decide +kernel) hw) hk.2.2)⟩
theorem pr_person {h : Ph} (x1 : Int32) (x2 : Int32) (hk : kJ h) : ∃ (v1 v2 : Int32) (h1 h2 : Ph), pm_Ex mtb (xsT 229) 229 2 1307 [.ref 0, .int x1, .int x2] h (some (.int v1)) h1 ∧ hI HTw RGw 229 h1 ∧ pm_Ex mtb (xsT 229) 229 2 1488 [.ref 172, .int x1, .int x2] h1 (some (.int v2)) h2 ∧ kJ h2 := by
  obtain ⟨v1, h1, e1, i1, p1, f1⟩ := xq_person x1 x2 hk.1 hk.2.1
  obtain ⟨v2, h2, e2, i2, p2, f2⟩ := mq_person x1 x2 i1 p1
  exact ⟨v1, v2, h1, h2, e1, i1, e2, i2, p2, zJ_wt (fun c j hw => zH_wt f2 (by decide +kernel) hw) (zJ_wt (fun c j hw => zH_wt f1 (by decide +kernel) hw) hk.2.2)⟩
theorem pr_thing {h : Ph} (x1 : Int32) (hk : kJ h) : ∃ (v1 v2 : Int32) (h1 h2 : Ph), pm_Ex mtb (xsT 229) 229 2 1317 [.ref 0, .int x1] h (some (.int v1)) h1 ∧ hI HTw RGw 229 h1 ∧ pm_Ex mtb (xsT 229) 229 2 1519 [.ref 172, .int x1] h1 (some (.int v2)) h2 ∧ kJ h2 := by
  obtain ⟨v1, h1, e1, i1, p1, f1⟩ := xq_thing x1 hk.1 hk.2.1
  obtain ⟨v2, h2, e2, i2, p2, f2⟩ := mq_thing x1 i1 p1
  exact ⟨v1, v2, h1, h2, e1, i1, e2, i2, p2, zJ_wt (fun c j hw => zH_wt f2 (by decide +kernel) hw) (zJ_wt (fun c j hw => zH_wt f1 (by decide +kernel) hw) hk.2.2)⟩
theorem pr_reach {h : Ph} (x1 : Int32) (hk : kJ h) : ∃ (v1 v2 : Int32) (h1 h2 : Ph), pm_Ex mtb (xsT 229) 229 5 1310 [.ref 0, .int x1] h (some (.int v1)) h1 ∧ hI HTw RGw 229 h1 ∧ pm_Ex mtb (xsT 229) 229 4 1494 [.ref 172, .int x1] h1 (some (.int v2)) h2 ∧ kJ h2 := by
  obtain ⟨v1, h1, e1, i1, p1, f1⟩ := xq_reach x1 hk.1 hk.2.1
  obtain ⟨v2, h2, e2, i2, p2, f2⟩ := mq_reach x1 i1 p1
  exact ⟨v1, v2, h1, h2, e1, i1, e2, i2, p2, zJ_wt (fun c j hw => zH_wt f2 (by decide +kernel) hw) (zJ_wt (fun c j hw => zH_wt f1 (by decide +kernel) hw) hk.2.2)⟩
theorem pr_cost {h : Ph} (x1 : Int32) (x2 : Int32) (hk : kJ h) : ∃ (v1 v2 : Int32) (h1 h2 : Ph), pm_Ex mtb (xsT 229) 229 5 1286 [.ref 0, .int x1, .int x2] h (some (.int v1)) h1 ∧ hI HTw RGw 229 h1 ∧ pm_Ex mtb (xsT 229) 229 3 1427 [.ref 172, .int x1, .int x2] h1 (some (.int v2)) h2 ∧ kJ h2 := by
  obtain ⟨v1, h1, e1, i1, p1, f1⟩ := xq_cost x1 x2 hk.1 hk.2.1
  obtain ⟨v2, h2, e2, i2, p2, f2⟩ := mq_cost x1 x2 i1 p1
  exact ⟨v1, v2, h1, h2, e1, i1, e2, i2, p2, zJ_wt (fun c j hw => zH_wt f2 (by decide +kernel) hw) (zJ_wt (fun c j hw => zH_wt f1 (by decide +kernel) hw) hk.2.2)⟩
theorem pr_cut {h : Ph}  (hk : kJ h) : ∃ (v1 v2 : Int32) (h1 h2 : Ph), pm_Ex mtb (xsT 229) 229 7 1288 [.ref 0] h (some (.int v1)) h1 ∧ hI HTw RGw 229 h1 ∧ pm_Ex mtb (xsT 229) 229 5 1429 [.ref 172] h1 (some (.int v2)) h2 ∧ kJ h2 := by
  obtain ⟨v1, h1, e1, i1, p1, f1⟩ := xq_cut hk.1 hk.2.1
  obtain ⟨v2, h2, e2, i2, p2, f2⟩ := mq_cut  i1 p1
  exact ⟨v1, v2, h1, h2, e1, i1, e2, i2, p2, zJ_wt (fun c j hw => zH_wt f2 (by decide +kernel) hw) (zJ_wt (fun c j hw => zH_wt f1 (by decide +kernel) hw) hk.2.2)⟩
theorem pr_steal {h : Ph} (x1 : Int32) (hk : kJ h) : ∃ (v1 v2 : Int32) (h1 h2 : Ph), pm_Ex mtb (xsT 229) 229 4 1315 [.ref 0, .int x1] h (some (.int v1)) h1 ∧ hI HTw RGw 229 h1 ∧ pm_Ex mtb (xsT 229) 229 6 1513 [.ref 172, .int x1] h1 (some (.int v2)) h2 ∧ kJ h2 := by
  obtain ⟨v1, h1, e1, i1, p1, f1⟩ := xq_steal x1 hk.1 hk.2.1
  obtain ⟨v2, h2, e2, i2, p2, f2⟩ := mq_steal x1 i1 p1
  exact ⟨v1, v2, h1, h2, e1, i1, e2, i2, p2, zJ_wt (fun c j hw => zH_wt f2 (by decide +kernel) hw) (zJ_wt (fun c j hw => zH_wt f1 (by decide +kernel) hw) hk.2.2)⟩
theorem pr_build {h : Ph} (x1 : Int32) (hk : kJ h) : ∃ (v1 v2 : Int32) (h1 h2 : Ph), pm_Ex mtb (xsT 229) 229 4 1284 [.ref 0, .int x1] h (some (.int v1)) h1 ∧ hI HTw RGw 229 h1 ∧ pm_Ex mtb (xsT 229) 229 3 1415 [.ref 172, .int x1] h1 (some (.int v2)) h2 ∧ kJ h2 := by
  obtain ⟨v1, h1, e1, i1, p1, f1⟩ := xq_build x1 hk.1 hk.2.1
  obtain ⟨v2, h2, e2, i2, p2, f2⟩ := mq_build x1 i1 p1
  exact ⟨v1, v2, h1, h2, e1, i1, e2, i2, p2, zJ_wt (fun c j hw => zH_wt f2 (by decide +kernel) hw) (zJ_wt (fun c j hw => zH_wt f1 (by decide +kernel) hw) hk.2.2)⟩
theorem pr_go {h : Ph} (x1 : Int32) (x2 : Int32) (hk : kJ h) : ∃ (v1 v2 : Int32) (h1 h2 : Ph), pm_Ex mtb (xsT 229) 229 6 1299 [.ref 0, .int x1, .int x2] h (some (.int v1)) h1 ∧ hI HTw RGw 229 h1 ∧ pm_Ex mtb (xsT 229) 229 5 1441 [.ref 172, .int x1, .int x2] h1 (some (.int v2)) h2 ∧ kJ h2 := by
  obtain ⟨v1, h1, e1, i1, p1, f1⟩ := xq_go x1 x2 hk.1 hk.2.1
  obtain ⟨v2, h2, e2, i2, p2, f2⟩ := mq_go x1 x2 i1 p1
  exact ⟨v1, v2, h1, h2, e1, i1, e2, i2, p2, zJ_wt (fun c j hw => zH_wt f2 (by decide +kernel) hw) (zJ_wt (fun c j hw => zH_wt f1 (by decide +kernel) hw) hk.2.2)⟩
theorem pr_carry {h : Ph} (x1 : Int32) (x2 : Int32) (x3 : Int32) (hk : kJ h) : ∃ (v1 v2 : Int32) (h1 h2 : Ph), pm_Ex mtb (xsT 229) 229 6 1285 [.ref 0, .int x1, .int x2, .int x3] h (some (.int v1)) h1 ∧ hI HTw RGw 229 h1 ∧ pm_Ex mtb (xsT 229) 229 4 1423 [.ref 172, .int x1, .int x2, .int x3] h1 (some (.int v2)) h2 ∧ kJ h2 := by
  obtain ⟨v1, h1, e1, i1, p1, f1⟩ := xq_carry x1 x2 x3 hk.1 hk.2.1
  obtain ⟨v2, h2, e2, i2, p2, f2⟩ := mq_carry x1 x2 x3 i1 p1
  exact ⟨v1, v2, h1, h2, e1, i1, e2, i2, p2, zJ_wt (fun c j hw => zH_wt f2 (by decide +kernel) hw) (zJ_wt (fun c j hw => zH_wt f1 (by decide +kernel) hw) hk.2.2)⟩
theorem pr_night {h : Ph}  (hk : kJ h) : ∃ (v1 v2 : Int32) (h1 h2 : Ph), pm_Ex mtb (xsT 229) 229 3 1303 [.ref 0] h (some (.int v1)) h1 ∧ hI HTw RGw 229 h1 ∧ pm_Ex mtb (xsT 229) 229 3 1483 [.ref 172] h1 (some (.int v2)) h2 ∧ kJ h2 := by
  obtain ⟨v1, h1, e1, i1, p1, f1⟩ := xq_night hk.1 hk.2.1
  obtain ⟨v2, h2, e2, i2, p2, f2⟩ := mq_night  i1 p1
  exact ⟨v1, v2, h1, h2, e1, i1, e2, i2, p2, zJ_wt (fun c j hw => zH_wt f2 (by decide +kernel) hw) (zJ_wt (fun c j hw => zH_wt f1 (by decide +kernel) hw) hk.2.2)⟩
theorem pr_undo {h : Ph}  (hk : kJ h) : ∃ (v1 v2 : Int32) (h1 h2 : Ph), pm_Ex mtb (xsT 229) 229 3 1319 [.ref 0] h (some (.int v1)) h1 ∧ hI HTw RGw 229 h1 ∧ pm_Ex mtb (xsT 229) 229 2 1522 [.ref 172] h1 (some (.int v2)) h2 ∧ kJ h2 := by
  obtain ⟨v1, h1, e1, i1, p1, f1⟩ := xq_undo hk.1 hk.2.1
  obtain ⟨v2, h2, e2, i2, p2, f2⟩ := mq_undo  i1 p1
  exact ⟨v1, v2, h1, h2, e1, i1, e2, i2, p2, zJ_wt (fun c j hw => zH_wt f2 (by decide +kernel) hw) (zJ_wt (fun c j hw => zH_wt f1 (by decide +kernel) hw) hk.2.2)⟩
theorem pr_judged {h : Ph} (x1 : Int32) (hk : kJ h) : ∃ (v1 v2 : Int32) (h1 h2 : Ph), pm_Ex mtb (xsT 229) 229 7 1300 [.ref 0, .int x1] h (some (.int v1)) h1 ∧ hI HTw RGw 229 h1 ∧ pm_Ex mtb (xsT 229) 229 7 1460 [.ref 172, .int x1] h1 (some (.int v2)) h2 ∧ kJ h2 := by
  obtain ⟨v1, h1, e1, i1, p1, f1⟩ := xq_judged x1 hk.1 hk.2.1
  obtain ⟨v2, h2, e2, i2, p2, f2⟩ := mq_judged x1 i1 p1
  exact ⟨v1, v2, h1, h2, e1, i1, e2, i2, p2, zJ_wt (fun c j hw => zH_wt f2 (by decide +kernel) hw) (zJ_wt (fun c j hw => zH_wt f1 (by decide +kernel) hw) hk.2.2)⟩
theorem pr_alone {h : Ph} (x1 : Int32) (hk : kJ h) : ∃ (v1 v2 : Int32) (h1 h2 : Ph), pm_Ex mtb (xsT 229) 229 6 1282 [.ref 0, .int x1] h (some (.int v1)) h1 ∧ hI HTw RGw 229 h1 ∧ pm_Ex mtb (xsT 229) 229 4 1410 [.ref 172, .int x1] h1 (some (.int v2)) h2 ∧ kJ h2 := by
  obtain ⟨v1, h1, e1, i1, p1, f1⟩ := xq_alone x1 hk.1 hk.2.1
  obtain ⟨v2, h2, e2, i2, p2, f2⟩ := mq_alone x1 i1 p1
  exact ⟨v1, v2, h1, h2, e1, i1, e2, i2, p2, zJ_wt (fun c j hw => zH_wt f2 (by decide +kernel) hw) (zJ_wt (fun c j hw => zH_wt f1 (by decide +kernel) hw) hk.2.2)⟩
theorem pr_plan {h : Ph} (x1 : Int32) (hk : kJ h) : ∃ (v1 v2 : Int32) (h1 h2 : Ph), pm_Ex mtb (xsT 229) 229 7 1308 [.ref 0, .int x1] h (some (.int v1)) h1 ∧ hI HTw RGw 229 h1 ∧ pm_Ex mtb (xsT 229) 229 5 1490 [.ref 172, .int x1] h1 (some (.int v2)) h2 ∧ kJ h2 := by
  obtain ⟨v1, h1, e1, i1, p1, f1⟩ := xq_plan x1 hk.1 hk.2.1
  obtain ⟨v2, h2, e2, i2, p2, f2⟩ := mq_plan x1 i1 p1
  exact ⟨v1, v2, h1, h2, e1, i1, e2, i2, p2, zJ_wt (fun c j hw => zH_wt f2 (by decide +kernel) hw) (zJ_wt (fun c j hw => zH_wt f1 (by decide +kernel) hw) hk.2.2)⟩
theorem pr_thefts {h : Ph} (x1 : Int32) (x2 : Int32) (x3 : Int32) (hk : kJ h) : ∃ (v1 v2 : Int32) (h1 h2 : Ph), pm_Ex mtb (xsT 229) 229 7 1316 [.ref 0, .int x1, .int x2, .int x3] h (some (.int v1)) h1 ∧ hI HTw RGw 229 h1 ∧ pm_Ex mtb (xsT 229) 229 5 1518 [.ref 172, .int x1, .int x2, .int x3] h1 (some (.int v2)) h2 ∧ kJ h2 := by
  obtain ⟨v1, h1, e1, i1, p1, f1⟩ := xq_thefts x1 x2 x3 hk.1 hk.2.1
  obtain ⟨v2, h2, e2, i2, p2, f2⟩ := mq_thefts x1 x2 x3 i1 p1
  exact ⟨v1, v2, h1, h2, e1, i1, e2, i2, p2, zJ_wt (fun c j hw => zH_wt f2 (by decide +kernel) hw) (zJ_wt (fun c j hw => zH_wt f1 (by decide +kernel) hw) hk.2.2)⟩
theorem pr_see {h : Ph} (x1 : Int32) (x2 : Int32) (x3 : Int32) (bx3 : x3 = 0 ∨ x3 = 1) (hk : kJ h) : ∃ (v1 v2 : Int32) (h1 h2 : Ph), pm_Ex mtb (xsT 229) 229 5 1313 [.ref 0, .int x1, .int x2, .int x3] h (some (.int v1)) h1 ∧ hI HTw RGw 229 h1 ∧ pm_Ex mtb (xsT 229) 229 2 1508 [.ref 172, .int x1, .int x2, .int x3] h1 (some (.int v2)) h2 ∧ kJ h2 := by
  obtain ⟨v1, h1, e1, i1, p1, f1⟩ := xq_see x1 x2 x3 bx3 hk.1 hk.2.1
  obtain ⟨v2, h2, e2, i2, p2, f2⟩ := mq_see x1 x2 x3 bx3 i1 p1
  exact ⟨v1, v2, h1, h2, e1, i1, e2, i2, p2, zJ_wt (fun c j hw => zH_wt f2 (by decide +kernel) hw) (zJ_wt (fun c j hw => zH_wt f1 (by decide +kernel) hw) hk.2.2)⟩
theorem pr_fits {h : Ph} (x1 : Int32) (hk : kJ h) : ∃ (v1 v2 : Int32) (h1 h2 : Ph), pm_Ex mtb (xsT 229) 229 2 1296 [.ref 0, .int x1] h (some (.int v1)) h1 ∧ hI HTw RGw 229 h1 ∧ pm_Ex mtb (xsT 229) 229 4 1436 [.ref 172, .int x1] h1 (some (.int v2)) h2 ∧ kJ h2 := by
  obtain ⟨v1, h1, e1, i1, p1, f1⟩ := xq_fits x1 hk.1 hk.2.1
  obtain ⟨v2, h2, e2, i2, p2, f2⟩ := mq_fits x1 i1 p1
  exact ⟨v1, v2, h1, h2, e1, i1, e2, i2, p2, zJ_wt (fun c j hw => zH_wt f2 (by decide +kernel) hw) (zJ_wt (fun c j hw => zH_wt f1 (by decide +kernel) hw) hk.2.2)⟩
theorem pr_orders {h : Ph} (x1 : Int32) (hk : kJ h) : ∃ (v1 v2 : Int32) (h1 h2 : Ph), pm_Ex mtb (xsT 229) 229 4 1305 [.ref 0, .int x1] h (some (.int v1)) h1 ∧ hI HTw RGw 229 h1 ∧ pm_Ex mtb (xsT 229) 229 13 1486 [.ref 172, .int x1] h1 (some (.int v2)) h2 ∧ kJ h2 := by
  obtain ⟨v1, h1, e1, i1, p1, f1⟩ := xq_orders x1 hk.1 hk.2.1
  obtain ⟨v2, h2, e2, i2, p2, f2⟩ := mq_orders x1 i1 p1
  exact ⟨v1, v2, h1, h2, e1, i1, e2, i2, p2, zJ_wt (fun c j hw => zH_wt f2 (by decide +kernel) hw) (zJ_wt (fun c j hw => zH_wt f1 (by decide +kernel) hw) hk.2.2)⟩
theorem pr_post {h : Ph} (x1 : Int32) (x2 : Int32) (hk : kJ h) : ∃ (v1 v2 : Int32) (h1 h2 : Ph), pm_Ex mtb (xsT 229) 229 3 1309 [.ref 0, .int x1, .int x2] h (some (.int v1)) h1 ∧ hI HTw RGw 229 h1 ∧ pm_Ex mtb (xsT 229) 229 3 1491 [.ref 172, .int x1, .int x2] h1 (some (.int v2)) h2 ∧ kJ h2 := by
  obtain ⟨v1, h1, e1, i1, p1, f1⟩ := xq_post x1 x2 hk.1 hk.2.1
  obtain ⟨v2, h2, e2, i2, p2, f2⟩ := mq_post x1 x2 i1 p1
  exact ⟨v1, v2, h1, h2, e1, i1, e2, i2, p2, zJ_wt (fun c j hw => zH_wt f2 (by decide +kernel) hw) (zJ_wt (fun c j hw => zH_wt f1 (by decide +kernel) hw) hk.2.2)⟩
theorem pr_watch {h : Ph}  (hk : kJ h) : ∃ (v1 v2 : Int32) (h1 h2 : Ph), pm_Ex mtb (xsT 229) 229 4 1320 [.ref 0] h (some (.int v1)) h1 ∧ hI HTw RGw 229 h1 ∧ pm_Ex mtb (xsT 229) 229 4 1523 [.ref 172] h1 (some (.int v2)) h2 ∧ kJ h2 := by
  obtain ⟨v1, h1, e1, i1, p1, f1⟩ := xq_watch hk.1 hk.2.1
  obtain ⟨v2, h2, e2, i2, p2, f2⟩ := mq_watch  i1 p1
  exact ⟨v1, v2, h1, h2, e1, i1, e2, i2, p2, zJ_wt (fun c j hw => zH_wt f2 (by decide +kernel) hw) (zJ_wt (fun c j hw => zH_wt f1 (by decide +kernel) hw) hk.2.2)⟩
theorem pr_live {h : Ph} (x1 : Int32) (x2 : Int32) (x3 : Int32) (hk : kJ h) : ∃ (v1 v2 : Int32) (h1 h2 : Ph), pm_Ex mtb (xsT 229) 229 6 1301 [.ref 0, .int x1, .int x2, .int x3] h (some (.int v1)) h1 ∧ hI HTw RGw 229 h1 ∧ pm_Ex mtb (xsT 229) 229 5 1468 [.ref 172, .int x1, .int x2, .int x3] h1 (some (.int v2)) h2 ∧ kJ h2 := by
  obtain ⟨v1, h1, e1, i1, p1, f1⟩ := xq_live x1 x2 x3 hk.1 hk.2.1
  obtain ⟨v2, h2, e2, i2, p2, f2⟩ := mq_live x1 x2 x3 i1 p1
  exact ⟨v1, v2, h1, h2, e1, i1, e2, i2, p2, zJ_wt (fun c j hw => zH_wt f2 (by decide +kernel) hw) (zJ_wt (fun c j hw => zH_wt f1 (by decide +kernel) hw) hk.2.2)⟩
theorem pr_best {h : Ph} (x1 : Int32) (x2 : Int32) (hk : kJ h) : ∃ (v1 v2 : Int32) (h1 h2 : Ph), pm_Ex mtb (xsT 229) 229 5 1283 [.ref 0, .int x1, .int x2] h (some (.int v1)) h1 ∧ hI HTw RGw 229 h1 ∧ pm_Ex mtb (xsT 229) 229 5 1412 [.ref 172, .int x1, .int x2] h1 (some (.int v2)) h2 ∧ kJ h2 := by
  obtain ⟨v1, h1, e1, i1, p1, f1⟩ := xq_best x1 x2 hk.1 hk.2.1
  obtain ⟨v2, h2, e2, i2, p2, f2⟩ := mq_best x1 x2 i1 p1
  exact ⟨v1, v2, h1, h2, e1, i1, e2, i2, p2, zJ_wt (fun c j hw => zH_wt f2 (by decide +kernel) hw) (zJ_wt (fun c j hw => zH_wt f1 (by decide +kernel) hw) hk.2.2)⟩
theorem pr_years {h : Ph} (x1 : Int32) (x2 : Int32) (x3 : Int32) (hk : kJ h) : ∃ (v1 v2 : Int32) (h1 h2 : Ph), pm_Ex mtb (xsT 229) 229 7 1321 [.ref 0, .int x1, .int x2, .int x3] h (some (.int v1)) h1 ∧ hI HTw RGw 229 h1 ∧ pm_Ex mtb (xsT 229) 229 7 1528 [.ref 172, .int x1, .int x2, .int x3] h1 (some (.int v2)) h2 ∧ kJ h2 := by
  obtain ⟨v1, h1, e1, i1, p1, f1⟩ := xq_years x1 x2 x3 hk.1 hk.2.1
  obtain ⟨v2, h2, e2, i2, p2, f2⟩ := mq_years x1 x2 x3 i1 p1
  exact ⟨v1, v2, h1, h2, e1, i1, e2, i2, p2, zJ_wt (fun c j hw => zH_wt f2 (by decide +kernel) hw) (zJ_wt (fun c j hw => zH_wt f1 (by decide +kernel) hw) hk.2.2)⟩
theorem pr_mark {h : Ph} (x1 : Int32) (x2 : Int32) (bx2 : x2 = 0 ∨ x2 = 1) (hk : kJ h) : ∃ (v1 v2 : Int32) (h1 h2 : Ph), pm_Ex mtb (xsT 229) 229 3 1302 [.ref 0, .int x1, .int x2] h (some (.int v1)) h1 ∧ hI HTw RGw 229 h1 ∧ pm_Ex mtb (xsT 229) 229 2 1472 [.ref 172, .int x1, .int x2] h1 (some (.int v2)) h2 ∧ kJ h2 := by
  obtain ⟨v1, h1, e1, i1, p1, f1⟩ := xq_mark x1 x2 bx2 hk.1 hk.2.1
  obtain ⟨v2, h2, e2, i2, p2, f2⟩ := mq_mark x1 x2 bx2 i1 p1
  exact ⟨v1, v2, h1, h2, e1, i1, e2, i2, p2, zJ_wt (fun c j hw => zH_wt f2 (by decide +kernel) hw) (zJ_wt (fun c j hw => zH_wt f1 (by decide +kernel) hw) hk.2.2)⟩
theorem pr_count {h : Ph} (x1 : Int32) (hk : kJ h) : ∃ (v1 v2 : Int32) (h1 h2 : Ph), pm_Ex mtb (xsT 229) 229 2 1287 [.ref 0, .int x1] h (some (.int v1)) h1 ∧ hI HTw RGw 229 h1 ∧ pm_Ex mtb (xsT 229) 229 2 1428 [.ref 172, .int x1] h1 (some (.int v2)) h2 ∧ kJ h2 := by
  obtain ⟨v1, h1, e1, i1, p1, f1⟩ := xq_count x1 hk.1 hk.2.1
  obtain ⟨v2, h2, e2, i2, p2, f2⟩ := mq_count x1 i1 p1
  exact ⟨v1, v2, h1, h2, e1, i1, e2, i2, p2, zJ_wt (fun c j hw => zH_wt f2 (by decide +kernel) hw) (zJ_wt (fun c j hw => zH_wt f1 (by decide +kernel) hw) hk.2.2)⟩
theorem pr_rests {h : Ph} (x1 : Int32) (x2 : Int32) (x3 : Int32) (x4 : Int32) (hk : kJ h) : ∃ (v2 : Int32) (h2 : Ph), pm_Ex mtb (xsT 229) 229 2 1506 [.ref 172, .int x1, .int x2, .int x3, .int x4] h (some (.int v2)) h2 ∧ kJ h2 := by
  obtain ⟨v2, h2, e2, i2, p2, f2⟩ := mq_rests x1 x2 x3 x4 hk.1 hk.2.1
  exact ⟨v2, h2, e2, i2, p2, zJ_wt (fun c j hw => zH_wt f2 (by decide +kernel) hw) hk.2.2⟩
theorem pr_feed {h : Ph} (x1 x2 x3 : Int64) (hk : kJ h) : ∃ (v1 v2 : Int32) (h1 h2 : Ph), pm_Ex mtb (xsT 229) 229 2 1291 [.ref 0, .long x1, .long x2, .long x3] h (some (.int v1)) h1 ∧ hI HTw RGw 229 h1 ∧ pm_Ex mtb (xsT 229) 229 1 1434 [.ref 172, .long x1, .long x2, .long x3] h1 (some (.int v2)) h2 ∧ kJ h2 := by
  obtain ⟨v1, h1, e1, i1, p1, f1⟩ := xq_feed x1 x2 x3 hk.1 hk.2.1
  obtain ⟨v2, h2, e2, i2, p2, f2⟩ := mq_feed x1 x2 x3 i1 p1
  obtain ⟨⟨a, t1, t2⟩, k, w⟩ := hk.2.2
  obtain ⟨-, g1, d1⟩ := zC_run e1 (by decide +kernel) hk.2.1 (fun n => feed_c (v1 := x1.toInt) (v2 := x2.toInt) (v3 := x3.toInt) t1)
  have d1 : frD (zH h) (zH h1) := d1
  have g1 : tpC (zH h1) _ := g1
  have t3 : tpM (zH h1) a := ⟨by rw [d1 172 1 (by decide) (by decide)]; exact t2.1, t2.2.1, fun i hi => by rw [d1 173 i (by omega) (by omega)]; exact t2.2.2 i hi⟩
  obtain ⟨-, g2⟩ := zC_run e2 (by decide +kernel) p1 (fun n => feed_m (v1 := x1.toInt) (v2 := x2.toInt) (v3 := x3.toInt) t3)
  have z : ∀ c j, cov [(0, 3, 5), (1, 0, 1), (2, 0, 1000), (3, 0, 28)] c j → zH h2 c j = zH h1 c j := fun c j hw => zH_wt f2 (by decide +kernel) hw
  refine ⟨v1, v2, h1, h2, e1, i1, e2, i2, p2, ⟨_, ⟨?_, g1.2.1, fun i hi => ?_⟩, g2⟩, fun i hi => ?_, ?_⟩
  · rw [z 1 0 ⟨(1, 0, 1), by decide, by decide⟩]; exact g1.1
  · rw [z 2 i ⟨(2, 0, 1000), by decide, rfl, Nat.zero_le _, Nat.lt_of_lt_of_le hi g1.2.1⟩]; exact g1.2.2 i hi
  · rw [z 3 i ⟨(3, 0, 28), by decide, rfl, Nat.zero_le _, hi⟩, d1 3 i (by omega) (by omega)]; exact k i hi
  · rw [z 0 3 ⟨(0, 3, 5), by decide, by decide⟩, z 0 4 ⟨(0, 3, 5), by decide, by decide⟩, d1 0 3 (by decide) (by decide), d1 0 4 (by decide) (by decide)]; exact w
theorem pr_nights {h : Ph} (hk : kJ h) : ∃ (v1 v2 : Int32) (h1 h2 : Ph), pm_Ex mtb (xsT 229) 229 10 1304 [.ref 0] h (some (.int v1)) h1 ∧ hI HTw RGw 229 h1 ∧ pm_Ex mtb (xsT 229) 229 6 1484 [.ref 172] h1 (some (.int v2)) h2 ∧ kJ h2 := by
  obtain ⟨v1, h1, e1, i1, p1, f1, g1⟩ := xz_nights hk.1 hk.2.1
  obtain ⟨v2, h2, e2, i2, p2, f2, g2⟩ := mz_nights i1 p1
  obtain ⟨-, k, w⟩ := hk.2.2
  have z1 : ∀ c j, cov [(0, 3, 5), (3, 0, 28)] c j → zH h1 c j = zH h c j := fun c j hw => zH_wt f1 (by decide +kernel) hw
  have z : ∀ c j, cov [(0, 3, 5), (1, 0, 1), (3, 0, 28)] c j → zH h2 c j = zH h1 c j := fun c j hw => zH_wt f2 (by decide +kernel) hw
  refine ⟨v1, v2, h1, h2, e1, i1, e2, i2, p2, ⟨(0, fun _ => 0), ⟨?_, Nat.zero_le _, fun i hi => absurd hi (Nat.not_lt_zero i)⟩, g2, Nat.zero_le _, fun i hi => absurd hi (Nat.not_lt_zero i)⟩, fun i hi => ?_, ?_⟩
  · rw [z 1 0 ⟨(1, 0, 1), by decide, by decide⟩]; exact g1
  · rw [z 3 i ⟨(3, 0, 28), by decide, rfl, Nat.zero_le _, hi⟩, z1 3 i ⟨(3, 0, 28), by decide, rfl, Nat.zero_le _, hi⟩]; exact k i hi
  · rw [z 0 3 ⟨(0, 3, 5), by decide, by decide⟩, z 0 4 ⟨(0, 3, 5), by decide, by decide⟩, z1 0 3 ⟨(0, 3, 5), by decide, by decide⟩, z1 0 4 ⟨(0, 3, 5), by decide, by decide⟩]; exact w
theorem zv1 {v : Int32} {x : Int} {l : List Zv} (h : (some (Value.int v)).toList.map zvl = (x, 0) :: l) : v.toInt = x := by
  have h : [(v.toInt, 0)] = (x, 0) :: l := h
  cases h
  rfl
theorem pr_town {h : Ph} (hk : kJ h) : ∃ (v1 v2 : Int32) (h1 h2 : Ph), pm_Ex mtb (xsT 229) 229 40 1318 [.ref 0] h (some (.int v1)) h1 ∧ hI HTw RGw 229 h1 ∧ pm_Ex mtb (xsT 229) 229 7 1521 [.ref 172] h1 (some (.int v2)) h2 ∧ kJ h2 ∧ v1 = v2 := by
  obtain ⟨v1, h1, e1, i1, p1, f1⟩ := xq_town hk.1 hk.2.1
  obtain ⟨v2, h2, e2, i2, p2, f2⟩ := mq_town i1 p1
  obtain ⟨⟨a, t1, t2⟩, k, w⟩ := hk.2.2
  obtain ⟨-, g1, g2, g3, -, g4⟩ := zC_run e1 (by decide +kernel) hk.2.1 (fun n => town_c (T := a.2) (n := a.1) (w.elim (fun q => Or.inr q.2) (fun q => Or.inl q.2)) ⟨t1.1, t1.2.1, t1.2.2, k⟩ zM_H)
  have z1 : ∀ c j, cov [(172, 1, 2), (173, 0, 1000)] c j → zH h1 c j = zH h c j := fun c j hw => zH_wt f1 (by decide +kernel) hw
  have t3 : tpM (zH h1) a := ⟨by rw [z1 172 1 ⟨(172, 1, 2), by decide, by decide⟩]; exact t2.1, t2.2.1, fun i hi => by rw [z1 173 i ⟨(173, 0, 1000), by decide, rfl, Nat.zero_le _, Nat.lt_of_lt_of_le hi t2.2.1⟩]; exact t2.2.2 i hi⟩
  obtain ⟨-, g5, g6⟩ := zC_run e2 (by decide +kernel) p1 (fun n => town_m (T := a.2) (n := a.1) t3.1 t3.2.1 t3.2.2)
  have z : ∀ c j, cov [(0, 3, 5), (1, 0, 1), (3, 0, 28)] c j → zH h2 c j = zH h1 c j := fun c j hw => zH_wt f2 (by decide +kernel) hw
  refine ⟨v1, v2, h1, h2, e1, i1, e2, ⟨i2, p2, ⟨(0, fun _ => 0), ⟨?_, Nat.zero_le _, fun i hi => absurd hi (Nat.not_lt_zero i)⟩, g6, Nat.zero_le _, fun i hi => absurd hi (Nat.not_lt_zero i)⟩, fun i hi => ?_, ?_⟩, ?_⟩
  · rw [z 1 0 ⟨(1, 0, 1), by decide, by decide⟩]; exact g2
  · rw [z 3 i ⟨(3, 0, 28), by decide, rfl, Nat.zero_le _, hi⟩]
    exact (g3 i).trans (k i hi)
  · rw [z 0 3 ⟨(0, 3, 5), by decide, by decide⟩, z 0 4 ⟨(0, 3, 5), by decide, by decide⟩]
    have g4 : (zH h1 0 3 = zH h 0 3 ∧ zH h1 0 4 = zH h 0 4) ∨ (zH h1 0 3 = zH h 0 4 ∧ zH h1 0 4 = zH h 0 3) := g4
    rcases g4 with ⟨q1, q2⟩ | ⟨q1, q2⟩
    · rw [q1, q2]; exact w
    · rw [q1, q2]; exact w.elim (fun q => Or.inr ⟨q.2, q.1⟩) (fun q => Or.inl ⟨q.2, q.1⟩)
  · exact Int32.toInt_inj.mp ((zv1 g1).trans (zv1 g5).symm)
