/-! public methods: an end, what is kept; Kp goes on -/
theorem HTw_all : ((List.range 229).all fun c => decide ((HTw c).1 < 4)) = true := by decide +kernel
theorem hsh_fr {a : Hk} {z x y : Pc} (s1 : hsh a x) (s2 : hsh a y) (e : ∀ j, pm_slot y j = pm_slot x j) (k : kpc z x) : kpc z y := by
  obtain ⟨a, b, n, r⟩ := a
  unfold hsh at s1 s2
  dsimp only at s1 s2
  match a, s1, s2 with
  | 0, s1, s2 =>
    obtain ⟨fs, rfl, l1⟩ := s1
    obtain ⟨fs', rfl, l2⟩ := s2
    have : fs' = fs := List.ext_getElem? (fun j => e j)
    rw [this]; exact k
  | 1, s1, s2 =>
    obtain ⟨f, rfl⟩ := s1
    obtain ⟨f', rfl⟩ := s2
    unfold kpc at k ⊢
    split at k
    · obtain ⟨f9, k1, -⟩ := k; cases k1
    · obtain ⟨f9, k1⟩ := k; cases k1; exact ⟨_, rfl⟩
    · obtain ⟨f9, k1⟩ := k; cases k1
    · obtain ⟨f9, k1, -⟩ := k; cases k1
    · exact k.elim
  | 2, s1, s2 =>
    obtain ⟨f, rfl⟩ := s1
    obtain ⟨f', rfl⟩ := s2
    unfold kpc at k ⊢
    split at k
    · obtain ⟨f9, k1, -⟩ := k; cases k1
    · obtain ⟨f9, k1⟩ := k; cases k1
    · obtain ⟨f9, k1⟩ := k; cases k1; exact ⟨_, rfl⟩
    · obtain ⟨f9, k1, -⟩ := k; cases k1
    · exact k.elim
  | 3, s1, s2 =>
    obtain ⟨f, rfl⟩ := s1
    obtain ⟨f', rfl⟩ := s2
    unfold kpc at k ⊢
    split at k
    · obtain ⟨f9, k1, -⟩ := k; cases k1
    · obtain ⟨f9, k1⟩ := k; cases k1
    · obtain ⟨f9, k1⟩ := k; cases k1
    · rename_i t0 k0 f0
      obtain ⟨f9, k1, k2⟩ := k
      cases k1
      refine ⟨f', rfl, fun j hj => ?_⟩
      rw [← k2 j hj]
      have ej := e j
      unfold pm_slot at ej
      dsimp only at ej
      rw [if_pos hj, if_pos hj] at ej
      revert ej
      cases f' j <;> cases f j <;> intro ej <;> simp_all
    · exact k.elim
  | n + 4, s1, s2 => exact s1.elim
theorem Kp_fr {h h' : Ph} (hk : Kp h) (hi : hI HTw RGw 229 h) (hi' : hI HTw RGw 229 h') (hf : fr [] h h') : Kp h' := fun c hc => by
  have hc4 : (HTw c).1 < 4 := of_decide_eq_true (List.all_eq_true.mp HTw_all c (List.mem_range.mpr hc))
  exact hsh_fr (hi.1 c hc4).2.1 (hi'.1 c hc4).2.1 (fun j => hf c j (fun ⟨m, hm, _⟩ => by cases hm)) (hk c hc)
theorem zH_fr {md : Md} {h h' : Ph} (hf : fr md h h') {c j : Nat} (hn : ¬ cov md c j) : zH h' c j = zH h c j := by
  unfold zH
  split
  · rfl
  · rw [hf c j hn]
theorem zH_fr0 {h h' : Ph} (hf : fr [] h h') : zH h' = zH h := by
  funext c j
  exact zH_fr hf (fun ⟨m, hm, _⟩ => by cases hm)
def wtB (W md : Md) : Bool := md.all fun m => W.all fun w => !(m.1 == w.1) || (decide (m.2.2 ≤ w.2.1) || decide (w.2.2 ≤ m.2.1))
theorem wtB_ok {W md : Md} (h : wtB W md = true) {c j : Nat} (hw : cov W c j) : ¬ cov md c j := by
  intro ⟨m, hm, m1, m2, m3⟩
  obtain ⟨w, hw, w1, w2, w3⟩ := hw
  have := List.all_eq_true.mp (List.all_eq_true.mp h m hm) w hw
  simp only [Bool.or_eq_true, Bool.not_eq_true', decide_eq_true_eq] at this
  rcases this with h1 | h1 | h1
  · rw [m1, w1, beq_self_eq_true] at h1; cases h1
  · omega
  · omega
theorem zH_wt {W md : Md} {h h' : Ph} (hf : fr md h h') (hb : wtB W md = true) {c j : Nat} (hw : cov W c j) : zH h' c j = zH h c j := zH_fr hf (wtB_ok hb hw)
theorem rs_int {vs : List Int} {E : Cu} {r : Option Value} (hT : okT 0 E = true) (g : gst RGw vs E.1.2.2.1 r.toList) : ∃ y : Int32, r = some (.int y) := by
  unfold okT at hT
  split at hT
  · rename_i a ha
    rw [ha] at g
    obtain ⟨v, us, e1, e2, e3⟩ := gst_cons g
    cases r with
    | none => cases e1
    | some u =>
      have e1 : [u] = v :: us := e1
      cases e1
      obtain ⟨y, w, rfl, h3, h4⟩ := gv_int e2 (eq_of_beq hT)
      exact ⟨y, rfl⟩
  · cases hT
theorem pub_q {cx : Cx} (H : Hd HTw RGw 229 mtb (xsT 229) cx) {args : List Av} {es : Sy} (he : cx.2.2.2.2.1.1 = (0, lvA 0 args, [], (0, 0, 0, 0, 0) :: es, [])) (hs : cx.2.2.1 = sumA args) (hE : cx.2.2.2.2.2.all (okT 0) = true) (hz : zok cx.1 = true) {av : List Value} {ws : List Int} {h : Ph} (ha : gst RGw (0 :: ws) args av) (hg : gs ((0, 0, 0, 0, 0) :: es) (0 :: ws)) (hi : hI HTw RGw 229 h) (kp : Kp h) : ∃ (v : Int32) (h' : Ph), pm_Ex mtb (xsT 229) 229 cx.2.1 cx.1 av h (some (.int v)) h' ∧ hI HTw RGw 229 h' ∧ Kp h' ∧ fr cx.2.2.2.1 h h' := by
  obtain ⟨r, h', E, vsE, w1, w2, w3, w4, w5, w6, w7⟩ := pub_ok H he hs ha hg hi
  obtain ⟨v, rfl⟩ := rs_int (List.all_eq_true.mp hE E w2) w3
  exact ⟨v, h', w1, w6, (zrun_ok _ _ _ _ _ _ w1 hz kp).1, w7⟩
theorem pub_zq {cx : Cx} (H : Hd HTw RGw 229 mtb (xsT 229) cx) {args : List Av} {es : Sy} (he : cx.2.2.2.2.1.1 = (0, lvA 0 args, [], (0, 0, 0, 0, 0) :: es, [])) (hs : cx.2.2.1 = sumA args) (hE : cx.2.2.2.2.2.all (okT 0) = true) (hz : zok cx.1 = true) (c j : Nat) (hj : j < 4294967295) (hc : c ≠ 1000) (hF : cx.2.2.2.2.2.all (fun E => decide (E.1.2.2.2.2 = [(c, j, (0, 0, 0))])) = true) {av : List Value} {ws : List Int} {h : Ph} (ha : gst RGw (0 :: ws) args av) (hg : gs ((0, 0, 0, 0, 0) :: es) (0 :: ws)) (hi : hI HTw RGw 229 h) (kp : Kp h) : ∃ (v : Int32) (h' : Ph), pm_Ex mtb (xsT 229) 229 cx.2.1 cx.1 av h (some (.int v)) h' ∧ hI HTw RGw 229 h' ∧ Kp h' ∧ fr cx.2.2.2.1 h h' ∧ zH h' c j = 0 := by
  obtain ⟨r, h', E, vsE, w1, w2, w3, w4, w5, w6, w7⟩ := pub_ok H he hs ha hg hi
  obtain ⟨v, rfl⟩ := rs_int (List.all_eq_true.mp hE E w2) w3
  have hf := of_decide_eq_true (List.all_eq_true.mp hF E w2)
  rw [hf] at w5
  obtain ⟨y, w, z1, z2, z3⟩ := gf1_to hj w5
  rw [w4] at z2
  cases z2
  refine ⟨v, h', w1, w6, (zrun_ok _ _ _ _ _ _ w1 hz kp).1, w7, ?_⟩
  rw [zH_n hc, z1]
  exact z3

theorem xq_flight {h : Ph} (x1 : Int32) (x2 : Int32) (hi : hI HTw RGw 229 h) (kp : Kp h) : ∃ (v : Int32) (h' : Ph), pm_Ex mtb (xsT 229) 229 2 1297 [.ref 0, .int x1, .int x2] h (some (.int v)) h' ∧ hI HTw RGw 229 h' ∧ Kp h' ∧ fr cx362.2.2.2.1 h h' := pub_q hd362 (args := [(2, 0, 0), (0, 1, 0), (0, 2, 0)]) (es := [tp32, tp32]) (ws := [x1.toInt, x2.toInt]) (by rfl) (by rfl) (by decide +kernel) (by decide +kernel) ⟨gvR, gvI rfl, gvI rfl, trivial⟩ (gsA ⟨i32 x1, i32 x2, trivial⟩) hi kp
theorem xq_person {h : Ph} (x1 : Int32) (x2 : Int32) (hi : hI HTw RGw 229 h) (kp : Kp h) : ∃ (v : Int32) (h' : Ph), pm_Ex mtb (xsT 229) 229 2 1307 [.ref 0, .int x1, .int x2] h (some (.int v)) h' ∧ hI HTw RGw 229 h' ∧ Kp h' ∧ fr cx365.2.2.2.1 h h' := pub_q hd365 (args := [(2, 0, 0), (0, 1, 0), (0, 2, 0)]) (es := [tp32, tp32]) (ws := [x1.toInt, x2.toInt]) (by rfl) (by rfl) (by decide +kernel) (by decide +kernel) ⟨gvR, gvI rfl, gvI rfl, trivial⟩ (gsA ⟨i32 x1, i32 x2, trivial⟩) hi kp
theorem xq_thing {h : Ph} (x1 : Int32) (hi : hI HTw RGw 229 h) (kp : Kp h) : ∃ (v : Int32) (h' : Ph), pm_Ex mtb (xsT 229) 229 2 1317 [.ref 0, .int x1] h (some (.int v)) h' ∧ hI HTw RGw 229 h' ∧ Kp h' ∧ fr cx368.2.2.2.1 h h' := pub_q hd368 (args := [(2, 0, 0), (0, 1, 0)]) (es := [tp32]) (ws := [x1.toInt]) (by rfl) (by rfl) (by decide +kernel) (by decide +kernel) ⟨gvR, gvI rfl, trivial⟩ (gsA ⟨i32 x1, trivial⟩) hi kp
theorem xq_reach {h : Ph} (x1 : Int32) (hi : hI HTw RGw 229 h) (kp : Kp h) : ∃ (v : Int32) (h' : Ph), pm_Ex mtb (xsT 229) 229 5 1310 [.ref 0, .int x1] h (some (.int v)) h' ∧ hI HTw RGw 229 h' ∧ Kp h' ∧ fr cx389.2.2.2.1 h h' := pub_q hd389 (args := [(2, 0, 0), (0, 1, 0)]) (es := [tp32]) (ws := [x1.toInt]) (by rfl) (by rfl) (by decide +kernel) (by decide +kernel) ⟨gvR, gvI rfl, trivial⟩ (gsA ⟨i32 x1, trivial⟩) hi kp
theorem xq_cost {h : Ph} (x1 : Int32) (x2 : Int32) (hi : hI HTw RGw 229 h) (kp : Kp h) : ∃ (v : Int32) (h' : Ph), pm_Ex mtb (xsT 229) 229 5 1286 [.ref 0, .int x1, .int x2] h (some (.int v)) h' ∧ hI HTw RGw 229 h' ∧ Kp h' ∧ fr cx392.2.2.2.1 h h' := pub_q hd392 (args := [(2, 0, 0), (0, 1, 0), (0, 2, 0)]) (es := [tp32, tp32]) (ws := [x1.toInt, x2.toInt]) (by rfl) (by rfl) (by decide +kernel) (by decide +kernel) ⟨gvR, gvI rfl, gvI rfl, trivial⟩ (gsA ⟨i32 x1, i32 x2, trivial⟩) hi kp
theorem xq_cut {h : Ph}  (hi : hI HTw RGw 229 h) (kp : Kp h) : ∃ (v : Int32) (h' : Ph), pm_Ex mtb (xsT 229) 229 7 1288 [.ref 0] h (some (.int v)) h' ∧ hI HTw RGw 229 h' ∧ Kp h' ∧ fr cx401.2.2.2.1 h h' := pub_q hd401 (args := [(2, 0, 0)]) (es := []) (ws := []) (by rfl) (by rfl) (by decide +kernel) (by decide +kernel) ⟨gvR, trivial⟩ (gsA trivial) hi kp
theorem xq_steal {h : Ph} (x1 : Int32) (hi : hI HTw RGw 229 h) (kp : Kp h) : ∃ (v : Int32) (h' : Ph), pm_Ex mtb (xsT 229) 229 4 1315 [.ref 0, .int x1] h (some (.int v)) h' ∧ hI HTw RGw 229 h' ∧ Kp h' ∧ fr cx430.2.2.2.1 h h' := pub_q hd430 (args := [(2, 0, 0), (0, 1, 0)]) (es := [tp32]) (ws := [x1.toInt]) (by rfl) (by rfl) (by decide +kernel) (by decide +kernel) ⟨gvR, gvI rfl, trivial⟩ (gsA ⟨i32 x1, trivial⟩) hi kp
theorem xq_build {h : Ph} (x1 : Int32) (hi : hI HTw RGw 229 h) (kp : Kp h) : ∃ (v : Int32) (h' : Ph), pm_Ex mtb (xsT 229) 229 4 1284 [.ref 0, .int x1] h (some (.int v)) h' ∧ hI HTw RGw 229 h' ∧ Kp h' ∧ fr cx433.2.2.2.1 h h' := pub_q hd433 (args := [(2, 0, 0), (0, 1, 0)]) (es := [tp32]) (ws := [x1.toInt]) (by rfl) (by rfl) (by decide +kernel) (by decide +kernel) ⟨gvR, gvI rfl, trivial⟩ (gsA ⟨i32 x1, trivial⟩) hi kp
theorem xq_go {h : Ph} (x1 : Int32) (x2 : Int32) (hi : hI HTw RGw 229 h) (kp : Kp h) : ∃ (v : Int32) (h' : Ph), pm_Ex mtb (xsT 229) 229 6 1299 [.ref 0, .int x1, .int x2] h (some (.int v)) h' ∧ hI HTw RGw 229 h' ∧ Kp h' ∧ fr cx436.2.2.2.1 h h' := pub_q hd436 (args := [(2, 0, 0), (0, 1, 0), (0, 2, 0)]) (es := [tp32, tp32]) (ws := [x1.toInt, x2.toInt]) (by rfl) (by rfl) (by decide +kernel) (by decide +kernel) ⟨gvR, gvI rfl, gvI rfl, trivial⟩ (gsA ⟨i32 x1, i32 x2, trivial⟩) hi kp
theorem xq_carry {h : Ph} (x1 : Int32) (x2 : Int32) (x3 : Int32) (hi : hI HTw RGw 229 h) (kp : Kp h) : ∃ (v : Int32) (h' : Ph), pm_Ex mtb (xsT 229) 229 6 1285 [.ref 0, .int x1, .int x2, .int x3] h (some (.int v)) h' ∧ hI HTw RGw 229 h' ∧ Kp h' ∧ fr cx445.2.2.2.1 h h' := pub_q hd445 (args := [(2, 0, 0), (0, 1, 0), (0, 2, 0), (0, 3, 0)]) (es := [tp32, tp32, tp32]) (ws := [x1.toInt, x2.toInt, x3.toInt]) (by rfl) (by rfl) (by decide +kernel) (by decide +kernel) ⟨gvR, gvI rfl, gvI rfl, gvI rfl, trivial⟩ (gsA ⟨i32 x1, i32 x2, i32 x3, trivial⟩) hi kp
theorem xq_night {h : Ph}  (hi : hI HTw RGw 229 h) (kp : Kp h) : ∃ (v : Int32) (h' : Ph), pm_Ex mtb (xsT 229) 229 3 1303 [.ref 0] h (some (.int v)) h' ∧ hI HTw RGw 229 h' ∧ Kp h' ∧ fr cx463.2.2.2.1 h h' := pub_q hd463 (args := [(2, 0, 0)]) (es := []) (ws := []) (by rfl) (by rfl) (by decide +kernel) (by decide +kernel) ⟨gvR, trivial⟩ (gsA trivial) hi kp
theorem xq_undo {h : Ph}  (hi : hI HTw RGw 229 h) (kp : Kp h) : ∃ (v : Int32) (h' : Ph), pm_Ex mtb (xsT 229) 229 3 1319 [.ref 0] h (some (.int v)) h' ∧ hI HTw RGw 229 h' ∧ Kp h' ∧ fr cx481.2.2.2.1 h h' := pub_q hd481 (args := [(2, 0, 0)]) (es := []) (ws := []) (by rfl) (by rfl) (by decide +kernel) (by decide +kernel) ⟨gvR, trivial⟩ (gsA trivial) hi kp
theorem xq_judged {h : Ph} (x1 : Int32) (hi : hI HTw RGw 229 h) (kp : Kp h) : ∃ (v : Int32) (h' : Ph), pm_Ex mtb (xsT 229) 229 7 1300 [.ref 0, .int x1] h (some (.int v)) h' ∧ hI HTw RGw 229 h' ∧ Kp h' ∧ fr cx515.2.2.2.1 h h' := pub_q hd515 (args := [(2, 0, 0), (0, 1, 0)]) (es := [tp32]) (ws := [x1.toInt]) (by rfl) (by rfl) (by decide +kernel) (by decide +kernel) ⟨gvR, gvI rfl, trivial⟩ (gsA ⟨i32 x1, trivial⟩) hi kp
theorem xq_alone {h : Ph} (x1 : Int32) (hi : hI HTw RGw 229 h) (kp : Kp h) : ∃ (v : Int32) (h' : Ph), pm_Ex mtb (xsT 229) 229 6 1282 [.ref 0, .int x1] h (some (.int v)) h' ∧ hI HTw RGw 229 h' ∧ Kp h' ∧ fr cx516.2.2.2.1 h h' := pub_q hd516 (args := [(2, 0, 0), (0, 1, 0)]) (es := [tp32]) (ws := [x1.toInt]) (by rfl) (by rfl) (by decide +kernel) (by decide +kernel) ⟨gvR, gvI rfl, trivial⟩ (gsA ⟨i32 x1, trivial⟩) hi kp
theorem xq_plan {h : Ph} (x1 : Int32) (hi : hI HTw RGw 229 h) (kp : Kp h) : ∃ (v : Int32) (h' : Ph), pm_Ex mtb (xsT 229) 229 7 1308 [.ref 0, .int x1] h (some (.int v)) h' ∧ hI HTw RGw 229 h' ∧ Kp h' ∧ fr cx519.2.2.2.1 h h' := pub_q hd519 (args := [(2, 0, 0), (0, 1, 0)]) (es := [tp32]) (ws := [x1.toInt]) (by rfl) (by rfl) (by decide +kernel) (by decide +kernel) ⟨gvR, gvI rfl, trivial⟩ (gsA ⟨i32 x1, trivial⟩) hi kp
theorem xq_thefts {h : Ph} (x1 : Int32) (x2 : Int32) (x3 : Int32) (hi : hI HTw RGw 229 h) (kp : Kp h) : ∃ (v : Int32) (h' : Ph), pm_Ex mtb (xsT 229) 229 7 1316 [.ref 0, .int x1, .int x2, .int x3] h (some (.int v)) h' ∧ hI HTw RGw 229 h' ∧ Kp h' ∧ fr cx522.2.2.2.1 h h' := pub_q hd522 (args := [(2, 0, 0), (0, 1, 0), (0, 2, 0), (0, 3, 0)]) (es := [tp32, tp32, tp32]) (ws := [x1.toInt, x2.toInt, x3.toInt]) (by rfl) (by rfl) (by decide +kernel) (by decide +kernel) ⟨gvR, gvI rfl, gvI rfl, gvI rfl, trivial⟩ (gsA ⟨i32 x1, i32 x2, i32 x3, trivial⟩) hi kp
theorem xq_see {h : Ph} (x1 : Int32) (x2 : Int32) (x3 : Int32) (bx3 : x3 = 0 ∨ x3 = 1) (hi : hI HTw RGw 229 h) (kp : Kp h) : ∃ (v : Int32) (h' : Ph), pm_Ex mtb (xsT 229) 229 5 1313 [.ref 0, .int x1, .int x2, .int x3] h (some (.int v)) h' ∧ hI HTw RGw 229 h' ∧ Kp h' ∧ fr cx524.2.2.2.1 h h' := pub_q hd524 (args := [(2, 0, 0), (0, 1, 0), (0, 2, 0), (0, 3, 0)]) (es := [tp32, tp32, tpB]) (ws := [x1.toInt, x2.toInt, x3.toInt]) (by rfl) (by rfl) (by decide +kernel) (by decide +kernel) ⟨gvR, gvI rfl, gvI rfl, gvI rfl, trivial⟩ (gsA ⟨i32 x1, i32 x2, iB bx3, trivial⟩) hi kp
theorem xq_fits {h : Ph} (x1 : Int32) (hi : hI HTw RGw 229 h) (kp : Kp h) : ∃ (v : Int32) (h' : Ph), pm_Ex mtb (xsT 229) 229 2 1296 [.ref 0, .int x1] h (some (.int v)) h' ∧ hI HTw RGw 229 h' ∧ Kp h' ∧ fr cx526.2.2.2.1 h h' := pub_q hd526 (args := [(2, 0, 0), (0, 1, 0)]) (es := [tp32]) (ws := [x1.toInt]) (by rfl) (by rfl) (by decide +kernel) (by decide +kernel) ⟨gvR, gvI rfl, trivial⟩ (gsA ⟨i32 x1, trivial⟩) hi kp
theorem xq_orders {h : Ph} (x1 : Int32) (hi : hI HTw RGw 229 h) (kp : Kp h) : ∃ (v : Int32) (h' : Ph), pm_Ex mtb (xsT 229) 229 4 1305 [.ref 0, .int x1] h (some (.int v)) h' ∧ hI HTw RGw 229 h' ∧ Kp h' ∧ fr cx539.2.2.2.1 h h' := pub_q hd539 (args := [(2, 0, 0), (0, 1, 0)]) (es := [tp32]) (ws := [x1.toInt]) (by rfl) (by rfl) (by decide +kernel) (by decide +kernel) ⟨gvR, gvI rfl, trivial⟩ (gsA ⟨i32 x1, trivial⟩) hi kp
theorem xq_post {h : Ph} (x1 : Int32) (x2 : Int32) (hi : hI HTw RGw 229 h) (kp : Kp h) : ∃ (v : Int32) (h' : Ph), pm_Ex mtb (xsT 229) 229 3 1309 [.ref 0, .int x1, .int x2] h (some (.int v)) h' ∧ hI HTw RGw 229 h' ∧ Kp h' ∧ fr cx542.2.2.2.1 h h' := pub_q hd542 (args := [(2, 0, 0), (0, 1, 0), (0, 2, 0)]) (es := [tp32, tp32]) (ws := [x1.toInt, x2.toInt]) (by rfl) (by rfl) (by decide +kernel) (by decide +kernel) ⟨gvR, gvI rfl, gvI rfl, trivial⟩ (gsA ⟨i32 x1, i32 x2, trivial⟩) hi kp
theorem xq_watch {h : Ph}  (hi : hI HTw RGw 229 h) (kp : Kp h) : ∃ (v : Int32) (h' : Ph), pm_Ex mtb (xsT 229) 229 4 1320 [.ref 0] h (some (.int v)) h' ∧ hI HTw RGw 229 h' ∧ Kp h' ∧ fr cx552.2.2.2.1 h h' := pub_q hd552 (args := [(2, 0, 0)]) (es := []) (ws := []) (by rfl) (by rfl) (by decide +kernel) (by decide +kernel) ⟨gvR, trivial⟩ (gsA trivial) hi kp
theorem xq_live {h : Ph} (x1 : Int32) (x2 : Int32) (x3 : Int32) (hi : hI HTw RGw 229 h) (kp : Kp h) : ∃ (v : Int32) (h' : Ph), pm_Ex mtb (xsT 229) 229 6 1301 [.ref 0, .int x1, .int x2, .int x3] h (some (.int v)) h' ∧ hI HTw RGw 229 h' ∧ Kp h' ∧ fr cx563.2.2.2.1 h h' := pub_q hd563 (args := [(2, 0, 0), (0, 1, 0), (0, 2, 0), (0, 3, 0)]) (es := [tp32, tp32, tp32]) (ws := [x1.toInt, x2.toInt, x3.toInt]) (by rfl) (by rfl) (by decide +kernel) (by decide +kernel) ⟨gvR, gvI rfl, gvI rfl, gvI rfl, trivial⟩ (gsA ⟨i32 x1, i32 x2, i32 x3, trivial⟩) hi kp
theorem xq_best {h : Ph} (x1 : Int32) (x2 : Int32) (hi : hI HTw RGw 229 h) (kp : Kp h) : ∃ (v : Int32) (h' : Ph), pm_Ex mtb (xsT 229) 229 5 1283 [.ref 0, .int x1, .int x2] h (some (.int v)) h' ∧ hI HTw RGw 229 h' ∧ Kp h' ∧ fr cx564.2.2.2.1 h h' := pub_q hd564 (args := [(2, 0, 0), (0, 1, 0), (0, 2, 0)]) (es := [tp32, tp32]) (ws := [x1.toInt, x2.toInt]) (by rfl) (by rfl) (by decide +kernel) (by decide +kernel) ⟨gvR, gvI rfl, gvI rfl, trivial⟩ (gsA ⟨i32 x1, i32 x2, trivial⟩) hi kp
theorem xq_years {h : Ph} (x1 : Int32) (x2 : Int32) (x3 : Int32) (hi : hI HTw RGw 229 h) (kp : Kp h) : ∃ (v : Int32) (h' : Ph), pm_Ex mtb (xsT 229) 229 7 1321 [.ref 0, .int x1, .int x2, .int x3] h (some (.int v)) h' ∧ hI HTw RGw 229 h' ∧ Kp h' ∧ fr cx575.2.2.2.1 h h' := pub_q hd575 (args := [(2, 0, 0), (0, 1, 0), (0, 2, 0), (0, 3, 0)]) (es := [tp32, tp32, tp32]) (ws := [x1.toInt, x2.toInt, x3.toInt]) (by rfl) (by rfl) (by decide +kernel) (by decide +kernel) ⟨gvR, gvI rfl, gvI rfl, gvI rfl, trivial⟩ (gsA ⟨i32 x1, i32 x2, i32 x3, trivial⟩) hi kp
theorem xq_mark {h : Ph} (x1 : Int32) (x2 : Int32) (bx2 : x2 = 0 ∨ x2 = 1) (hi : hI HTw RGw 229 h) (kp : Kp h) : ∃ (v : Int32) (h' : Ph), pm_Ex mtb (xsT 229) 229 3 1302 [.ref 0, .int x1, .int x2] h (some (.int v)) h' ∧ hI HTw RGw 229 h' ∧ Kp h' ∧ fr cx600.2.2.2.1 h h' := pub_q hd600 (args := [(2, 0, 0), (0, 1, 0), (0, 2, 0)]) (es := [tp32, tpB]) (ws := [x1.toInt, x2.toInt]) (by rfl) (by rfl) (by decide +kernel) (by decide +kernel) ⟨gvR, gvI rfl, gvI rfl, trivial⟩ (gsA ⟨i32 x1, iB bx2, trivial⟩) hi kp
theorem xq_count {h : Ph} (x1 : Int32) (hi : hI HTw RGw 229 h) (kp : Kp h) : ∃ (v : Int32) (h' : Ph), pm_Ex mtb (xsT 229) 229 2 1287 [.ref 0, .int x1] h (some (.int v)) h' ∧ hI HTw RGw 229 h' ∧ Kp h' ∧ fr cx601.2.2.2.1 h h' := pub_q hd601 (args := [(2, 0, 0), (0, 1, 0)]) (es := [tp32]) (ws := [x1.toInt]) (by rfl) (by rfl) (by decide +kernel) (by decide +kernel) ⟨gvR, gvI rfl, trivial⟩ (gsA ⟨i32 x1, trivial⟩) hi kp
theorem mq_flight {h : Ph} (x1 : Int32) (x2 : Int32) (hi : hI HTw RGw 229 h) (kp : Kp h) : ∃ (v : Int32) (h' : Ph), pm_Ex mtb (xsT 229) 229 2 1437 [.ref 172, .int x1, .int x2] h (some (.int v)) h' ∧ hI HTw RGw 229 h' ∧ Kp h' ∧ fr cx914.2.2.2.1 h h' := pub_q hd914 (args := [(2, 172, 0), (0, 1, 0), (0, 2, 0)]) (es := [tp32, tp32]) (ws := [x1.toInt, x2.toInt]) (by rfl) (by rfl) (by decide +kernel) (by decide +kernel) ⟨gvR, gvI rfl, gvI rfl, trivial⟩ (gsA ⟨i32 x1, i32 x2, trivial⟩) hi kp
theorem mq_person {h : Ph} (x1 : Int32) (x2 : Int32) (hi : hI HTw RGw 229 h) (kp : Kp h) : ∃ (v : Int32) (h' : Ph), pm_Ex mtb (xsT 229) 229 2 1488 [.ref 172, .int x1, .int x2] h (some (.int v)) h' ∧ hI HTw RGw 229 h' ∧ Kp h' ∧ fr cx917.2.2.2.1 h h' := pub_q hd917 (args := [(2, 172, 0), (0, 1, 0), (0, 2, 0)]) (es := [tp32, tp32]) (ws := [x1.toInt, x2.toInt]) (by rfl) (by rfl) (by decide +kernel) (by decide +kernel) ⟨gvR, gvI rfl, gvI rfl, trivial⟩ (gsA ⟨i32 x1, i32 x2, trivial⟩) hi kp
theorem mq_thing {h : Ph} (x1 : Int32) (hi : hI HTw RGw 229 h) (kp : Kp h) : ∃ (v : Int32) (h' : Ph), pm_Ex mtb (xsT 229) 229 2 1519 [.ref 172, .int x1] h (some (.int v)) h' ∧ hI HTw RGw 229 h' ∧ Kp h' ∧ fr cx919.2.2.2.1 h h' := pub_q hd919 (args := [(2, 172, 0), (0, 1, 0)]) (es := [tp32]) (ws := [x1.toInt]) (by rfl) (by rfl) (by decide +kernel) (by decide +kernel) ⟨gvR, gvI rfl, trivial⟩ (gsA ⟨i32 x1, trivial⟩) hi kp
theorem mq_reach {h : Ph} (x1 : Int32) (hi : hI HTw RGw 229 h) (kp : Kp h) : ∃ (v : Int32) (h' : Ph), pm_Ex mtb (xsT 229) 229 4 1494 [.ref 172, .int x1] h (some (.int v)) h' ∧ hI HTw RGw 229 h' ∧ Kp h' ∧ fr cx925.2.2.2.1 h h' := pub_q hd925 (args := [(2, 172, 0), (0, 1, 0)]) (es := [tp32]) (ws := [x1.toInt]) (by rfl) (by rfl) (by decide +kernel) (by decide +kernel) ⟨gvR, gvI rfl, trivial⟩ (gsA ⟨i32 x1, trivial⟩) hi kp
theorem mq_cost {h : Ph} (x1 : Int32) (x2 : Int32) (hi : hI HTw RGw 229 h) (kp : Kp h) : ∃ (v : Int32) (h' : Ph), pm_Ex mtb (xsT 229) 229 3 1427 [.ref 172, .int x1, .int x2] h (some (.int v)) h' ∧ hI HTw RGw 229 h' ∧ Kp h' ∧ fr cx928.2.2.2.1 h h' := pub_q hd928 (args := [(2, 172, 0), (0, 1, 0), (0, 2, 0)]) (es := [tp32, tp32]) (ws := [x1.toInt, x2.toInt]) (by rfl) (by rfl) (by decide +kernel) (by decide +kernel) ⟨gvR, gvI rfl, gvI rfl, trivial⟩ (gsA ⟨i32 x1, i32 x2, trivial⟩) hi kp
theorem mq_cut {h : Ph}  (hi : hI HTw RGw 229 h) (kp : Kp h) : ∃ (v : Int32) (h' : Ph), pm_Ex mtb (xsT 229) 229 5 1429 [.ref 172] h (some (.int v)) h' ∧ hI HTw RGw 229 h' ∧ Kp h' ∧ fr cx931.2.2.2.1 h h' := pub_q hd931 (args := [(2, 172, 0)]) (es := []) (ws := []) (by rfl) (by rfl) (by decide +kernel) (by decide +kernel) ⟨gvR, trivial⟩ (gsA trivial) hi kp
theorem mq_steal {h : Ph} (x1 : Int32) (hi : hI HTw RGw 229 h) (kp : Kp h) : ∃ (v : Int32) (h' : Ph), pm_Ex mtb (xsT 229) 229 6 1513 [.ref 172, .int x1] h (some (.int v)) h' ∧ hI HTw RGw 229 h' ∧ Kp h' ∧ fr cx956.2.2.2.1 h h' := pub_q (hd956 hdW) (args := [(2, 172, 0), (0, 1, 0)]) (es := [tp32]) (ws := [x1.toInt]) (by rfl) (by rfl) (by decide +kernel) (by decide +kernel) ⟨gvR, gvI rfl, trivial⟩ (gsA ⟨i32 x1, trivial⟩) hi kp
theorem mq_build {h : Ph} (x1 : Int32) (hi : hI HTw RGw 229 h) (kp : Kp h) : ∃ (v : Int32) (h' : Ph), pm_Ex mtb (xsT 229) 229 3 1415 [.ref 172, .int x1] h (some (.int v)) h' ∧ hI HTw RGw 229 h' ∧ Kp h' ∧ fr cx959.2.2.2.1 h h' := pub_q hd959 (args := [(2, 172, 0), (0, 1, 0)]) (es := [tp32]) (ws := [x1.toInt]) (by rfl) (by rfl) (by decide +kernel) (by decide +kernel) ⟨gvR, gvI rfl, trivial⟩ (gsA ⟨i32 x1, trivial⟩) hi kp
theorem mq_go {h : Ph} (x1 : Int32) (x2 : Int32) (hi : hI HTw RGw 229 h) (kp : Kp h) : ∃ (v : Int32) (h' : Ph), pm_Ex mtb (xsT 229) 229 5 1441 [.ref 172, .int x1, .int x2] h (some (.int v)) h' ∧ hI HTw RGw 229 h' ∧ Kp h' ∧ fr cx961.2.2.2.1 h h' := pub_q hd961 (args := [(2, 172, 0), (0, 1, 0), (0, 2, 0)]) (es := [tp32, tp32]) (ws := [x1.toInt, x2.toInt]) (by rfl) (by rfl) (by decide +kernel) (by decide +kernel) ⟨gvR, gvI rfl, gvI rfl, trivial⟩ (gsA ⟨i32 x1, i32 x2, trivial⟩) hi kp
theorem mq_carry {h : Ph} (x1 : Int32) (x2 : Int32) (x3 : Int32) (hi : hI HTw RGw 229 h) (kp : Kp h) : ∃ (v : Int32) (h' : Ph), pm_Ex mtb (xsT 229) 229 4 1423 [.ref 172, .int x1, .int x2, .int x3] h (some (.int v)) h' ∧ hI HTw RGw 229 h' ∧ Kp h' ∧ fr cx965.2.2.2.1 h h' := pub_q hd965 (args := [(2, 172, 0), (0, 1, 0), (0, 2, 0), (0, 3, 0)]) (es := [tp32, tp32, tp32]) (ws := [x1.toInt, x2.toInt, x3.toInt]) (by rfl) (by rfl) (by decide +kernel) (by decide +kernel) ⟨gvR, gvI rfl, gvI rfl, gvI rfl, trivial⟩ (gsA ⟨i32 x1, i32 x2, i32 x3, trivial⟩) hi kp
theorem mq_night {h : Ph}  (hi : hI HTw RGw 229 h) (kp : Kp h) : ∃ (v : Int32) (h' : Ph), pm_Ex mtb (xsT 229) 229 3 1483 [.ref 172] h (some (.int v)) h' ∧ hI HTw RGw 229 h' ∧ Kp h' ∧ fr cx966.2.2.2.1 h h' := pub_q hd966 (args := [(2, 172, 0)]) (es := []) (ws := []) (by rfl) (by rfl) (by decide +kernel) (by decide +kernel) ⟨gvR, trivial⟩ (gsA trivial) hi kp
theorem mq_undo {h : Ph}  (hi : hI HTw RGw 229 h) (kp : Kp h) : ∃ (v : Int32) (h' : Ph), pm_Ex mtb (xsT 229) 229 2 1522 [.ref 172] h (some (.int v)) h' ∧ hI HTw RGw 229 h' ∧ Kp h' ∧ fr cx983.2.2.2.1 h h' := pub_q hd983 (args := [(2, 172, 0)]) (es := []) (ws := []) (by rfl) (by rfl) (by decide +kernel) (by decide +kernel) ⟨gvR, trivial⟩ (gsA trivial) hi kp
theorem mq_judged {h : Ph} (x1 : Int32) (hi : hI HTw RGw 229 h) (kp : Kp h) : ∃ (v : Int32) (h' : Ph), pm_Ex mtb (xsT 229) 229 7 1460 [.ref 172, .int x1] h (some (.int v)) h' ∧ hI HTw RGw 229 h' ∧ Kp h' ∧ fr cx988.2.2.2.1 h h' := pub_q (hd988 hdW) (args := [(2, 172, 0), (0, 1, 0)]) (es := [tp32]) (ws := [x1.toInt]) (by rfl) (by rfl) (by decide +kernel) (by decide +kernel) ⟨gvR, gvI rfl, trivial⟩ (gsA ⟨i32 x1, trivial⟩) hi kp
theorem mq_alone {h : Ph} (x1 : Int32) (hi : hI HTw RGw 229 h) (kp : Kp h) : ∃ (v : Int32) (h' : Ph), pm_Ex mtb (xsT 229) 229 4 1410 [.ref 172, .int x1] h (some (.int v)) h' ∧ hI HTw RGw 229 h' ∧ Kp h' ∧ fr cx989.2.2.2.1 h h' := pub_q hd989 (args := [(2, 172, 0), (0, 1, 0)]) (es := [tp32]) (ws := [x1.toInt]) (by rfl) (by rfl) (by decide +kernel) (by decide +kernel) ⟨gvR, gvI rfl, trivial⟩ (gsA ⟨i32 x1, trivial⟩) hi kp
theorem mq_plan {h : Ph} (x1 : Int32) (hi : hI HTw RGw 229 h) (kp : Kp h) : ∃ (v : Int32) (h' : Ph), pm_Ex mtb (xsT 229) 229 5 1490 [.ref 172, .int x1] h (some (.int v)) h' ∧ hI HTw RGw 229 h' ∧ Kp h' ∧ fr cx992.2.2.2.1 h h' := pub_q hd992 (args := [(2, 172, 0), (0, 1, 0)]) (es := [tp32]) (ws := [x1.toInt]) (by rfl) (by rfl) (by decide +kernel) (by decide +kernel) ⟨gvR, gvI rfl, trivial⟩ (gsA ⟨i32 x1, trivial⟩) hi kp
theorem mq_thefts {h : Ph} (x1 : Int32) (x2 : Int32) (x3 : Int32) (hi : hI HTw RGw 229 h) (kp : Kp h) : ∃ (v : Int32) (h' : Ph), pm_Ex mtb (xsT 229) 229 5 1518 [.ref 172, .int x1, .int x2, .int x3] h (some (.int v)) h' ∧ hI HTw RGw 229 h' ∧ Kp h' ∧ fr cx995.2.2.2.1 h h' := pub_q hd995 (args := [(2, 172, 0), (0, 1, 0), (0, 2, 0), (0, 3, 0)]) (es := [tp32, tp32, tp32]) (ws := [x1.toInt, x2.toInt, x3.toInt]) (by rfl) (by rfl) (by decide +kernel) (by decide +kernel) ⟨gvR, gvI rfl, gvI rfl, gvI rfl, trivial⟩ (gsA ⟨i32 x1, i32 x2, i32 x3, trivial⟩) hi kp
theorem mq_see {h : Ph} (x1 : Int32) (x2 : Int32) (x3 : Int32) (bx3 : x3 = 0 ∨ x3 = 1) (hi : hI HTw RGw 229 h) (kp : Kp h) : ∃ (v : Int32) (h' : Ph), pm_Ex mtb (xsT 229) 229 2 1508 [.ref 172, .int x1, .int x2, .int x3] h (some (.int v)) h' ∧ hI HTw RGw 229 h' ∧ Kp h' ∧ fr cx996.2.2.2.1 h h' := pub_q hd996 (args := [(2, 172, 0), (0, 1, 0), (0, 2, 0), (0, 3, 0)]) (es := [tp32, tp32, tpB]) (ws := [x1.toInt, x2.toInt, x3.toInt]) (by rfl) (by rfl) (by decide +kernel) (by decide +kernel) ⟨gvR, gvI rfl, gvI rfl, gvI rfl, trivial⟩ (gsA ⟨i32 x1, i32 x2, iB bx3, trivial⟩) hi kp
theorem mq_fits {h : Ph} (x1 : Int32) (hi : hI HTw RGw 229 h) (kp : Kp h) : ∃ (v : Int32) (h' : Ph), pm_Ex mtb (xsT 229) 229 4 1436 [.ref 172, .int x1] h (some (.int v)) h' ∧ hI HTw RGw 229 h' ∧ Kp h' ∧ fr cx998.2.2.2.1 h h' := pub_q hd998 (args := [(2, 172, 0), (0, 1, 0)]) (es := [tp32]) (ws := [x1.toInt]) (by rfl) (by rfl) (by decide +kernel) (by decide +kernel) ⟨gvR, gvI rfl, trivial⟩ (gsA ⟨i32 x1, trivial⟩) hi kp
theorem mq_orders {h : Ph} (x1 : Int32) (hi : hI HTw RGw 229 h) (kp : Kp h) : ∃ (v : Int32) (h' : Ph), pm_Ex mtb (xsT 229) 229 13 1486 [.ref 172, .int x1] h (some (.int v)) h' ∧ hI HTw RGw 229 h' ∧ Kp h' ∧ fr cxO.2.2.2.1 h h' := pub_q hdO (args := [(2, 172, 0), (0, 1, 0)]) (es := [tp32]) (ws := [x1.toInt]) (by rfl) (by rfl) (by decide +kernel) (by decide +kernel) ⟨gvR, gvI rfl, trivial⟩ (gsA ⟨i32 x1, trivial⟩) hi kp
theorem mq_post {h : Ph} (x1 : Int32) (x2 : Int32) (hi : hI HTw RGw 229 h) (kp : Kp h) : ∃ (v : Int32) (h' : Ph), pm_Ex mtb (xsT 229) 229 3 1491 [.ref 172, .int x1, .int x2] h (some (.int v)) h' ∧ hI HTw RGw 229 h' ∧ Kp h' ∧ fr cx1019.2.2.2.1 h h' := pub_q hd1019 (args := [(2, 172, 0), (0, 1, 0), (0, 2, 0)]) (es := [tp32, tp32]) (ws := [x1.toInt, x2.toInt]) (by rfl) (by rfl) (by decide +kernel) (by decide +kernel) ⟨gvR, gvI rfl, gvI rfl, trivial⟩ (gsA ⟨i32 x1, i32 x2, trivial⟩) hi kp
theorem mq_watch {h : Ph}  (hi : hI HTw RGw 229 h) (kp : Kp h) : ∃ (v : Int32) (h' : Ph), pm_Ex mtb (xsT 229) 229 4 1523 [.ref 172] h (some (.int v)) h' ∧ hI HTw RGw 229 h' ∧ Kp h' ∧ fr cx1022.2.2.2.1 h h' := pub_q hd1022 (args := [(2, 172, 0)]) (es := []) (ws := []) (by rfl) (by rfl) (by decide +kernel) (by decide +kernel) ⟨gvR, trivial⟩ (gsA trivial) hi kp
theorem mq_rests {h : Ph} (x1 : Int32) (x2 : Int32) (x3 : Int32) (x4 : Int32) (hi : hI HTw RGw 229 h) (kp : Kp h) : ∃ (v : Int32) (h' : Ph), pm_Ex mtb (xsT 229) 229 2 1506 [.ref 172, .int x1, .int x2, .int x3, .int x4] h (some (.int v)) h' ∧ hI HTw RGw 229 h' ∧ Kp h' ∧ fr cx1026.2.2.2.1 h h' := pub_q hd1026 (args := [(2, 172, 0), (0, 1, 0), (0, 2, 0), (0, 3, 0), (0, 4, 0)]) (es := [tp32, tp32, tp32, tp32]) (ws := [x1.toInt, x2.toInt, x3.toInt, x4.toInt]) (by rfl) (by rfl) (by decide +kernel) (by decide +kernel) ⟨gvR, gvI rfl, gvI rfl, gvI rfl, gvI rfl, trivial⟩ (gsA ⟨i32 x1, i32 x2, i32 x3, i32 x4, trivial⟩) hi kp
theorem mq_live {h : Ph} (x1 : Int32) (x2 : Int32) (x3 : Int32) (hi : hI HTw RGw 229 h) (kp : Kp h) : ∃ (v : Int32) (h' : Ph), pm_Ex mtb (xsT 229) 229 5 1468 [.ref 172, .int x1, .int x2, .int x3] h (some (.int v)) h' ∧ hI HTw RGw 229 h' ∧ Kp h' ∧ fr cx1030.2.2.2.1 h h' := pub_q hd1030 (args := [(2, 172, 0), (0, 1, 0), (0, 2, 0), (0, 3, 0)]) (es := [tp32, tp32, tp32]) (ws := [x1.toInt, x2.toInt, x3.toInt]) (by rfl) (by rfl) (by decide +kernel) (by decide +kernel) ⟨gvR, gvI rfl, gvI rfl, gvI rfl, trivial⟩ (gsA ⟨i32 x1, i32 x2, i32 x3, trivial⟩) hi kp
theorem mq_best {h : Ph} (x1 : Int32) (x2 : Int32) (hi : hI HTw RGw 229 h) (kp : Kp h) : ∃ (v : Int32) (h' : Ph), pm_Ex mtb (xsT 229) 229 5 1412 [.ref 172, .int x1, .int x2] h (some (.int v)) h' ∧ hI HTw RGw 229 h' ∧ Kp h' ∧ fr cx1031.2.2.2.1 h h' := pub_q hd1031 (args := [(2, 172, 0), (0, 1, 0), (0, 2, 0)]) (es := [tp32, tp32]) (ws := [x1.toInt, x2.toInt]) (by rfl) (by rfl) (by decide +kernel) (by decide +kernel) ⟨gvR, gvI rfl, gvI rfl, trivial⟩ (gsA ⟨i32 x1, i32 x2, trivial⟩) hi kp
theorem mq_years {h : Ph} (x1 : Int32) (x2 : Int32) (x3 : Int32) (hi : hI HTw RGw 229 h) (kp : Kp h) : ∃ (v : Int32) (h' : Ph), pm_Ex mtb (xsT 229) 229 7 1528 [.ref 172, .int x1, .int x2, .int x3] h (some (.int v)) h' ∧ hI HTw RGw 229 h' ∧ Kp h' ∧ fr cx1037.2.2.2.1 h h' := pub_q (hd1037 hdW) (args := [(2, 172, 0), (0, 1, 0), (0, 2, 0), (0, 3, 0)]) (es := [tp32, tp32, tp32]) (ws := [x1.toInt, x2.toInt, x3.toInt]) (by rfl) (by rfl) (by decide +kernel) (by decide +kernel) ⟨gvR, gvI rfl, gvI rfl, gvI rfl, trivial⟩ (gsA ⟨i32 x1, i32 x2, i32 x3, trivial⟩) hi kp
theorem mq_mark {h : Ph} (x1 : Int32) (x2 : Int32) (bx2 : x2 = 0 ∨ x2 = 1) (hi : hI HTw RGw 229 h) (kp : Kp h) : ∃ (v : Int32) (h' : Ph), pm_Ex mtb (xsT 229) 229 2 1472 [.ref 172, .int x1, .int x2] h (some (.int v)) h' ∧ hI HTw RGw 229 h' ∧ Kp h' ∧ fr cx1050.2.2.2.1 h h' := pub_q hd1050 (args := [(2, 172, 0), (0, 1, 0), (0, 2, 0)]) (es := [tp32, tpB]) (ws := [x1.toInt, x2.toInt]) (by rfl) (by rfl) (by decide +kernel) (by decide +kernel) ⟨gvR, gvI rfl, gvI rfl, trivial⟩ (gsA ⟨i32 x1, iB bx2, trivial⟩) hi kp
theorem mq_count {h : Ph} (x1 : Int32) (hi : hI HTw RGw 229 h) (kp : Kp h) : ∃ (v : Int32) (h' : Ph), pm_Ex mtb (xsT 229) 229 2 1428 [.ref 172, .int x1] h (some (.int v)) h' ∧ hI HTw RGw 229 h' ∧ Kp h' ∧ fr cx1052.2.2.2.1 h h' := pub_q hd1052 (args := [(2, 172, 0), (0, 1, 0)]) (es := [tp32]) (ws := [x1.toInt]) (by rfl) (by rfl) (by decide +kernel) (by decide +kernel) ⟨gvR, gvI rfl, trivial⟩ (gsA ⟨i32 x1, trivial⟩) hi kp
theorem xq_town {h : Ph} (hi : hI HTw RGw 229 h) (kp : Kp h) : ∃ (v : Int32) (h' : Ph), pm_Ex mtb (xsT 229) 229 40 1318 [.ref 0] h (some (.int v)) h' ∧ hI HTw RGw 229 h' ∧ Kp h' ∧ fr cx341.2.2.2.1 h h' := pub_q hd341 (args := [(2, 0, 0)]) (es := []) (ws := []) (av := [.ref 0]) (by rfl) (by rfl) (by decide +kernel) (by decide +kernel) ⟨gvR, trivial⟩ (gsA trivial) hi kp
theorem xq_nights {h : Ph} (hi : hI HTw RGw 229 h) (kp : Kp h) : ∃ (v : Int32) (h' : Ph), pm_Ex mtb (xsT 229) 229 10 1304 [.ref 0] h (some (.int v)) h' ∧ hI HTw RGw 229 h' ∧ Kp h' ∧ fr cx359.2.2.2.1 h h' := pub_q hd359 (args := [(2, 0, 0)]) (es := []) (ws := []) (av := [.ref 0]) (by rfl) (by rfl) (by decide +kernel) (by decide +kernel) ⟨gvR, trivial⟩ (gsA trivial) hi kp
theorem mq_town {h : Ph} (hi : hI HTw RGw 229 h) (kp : Kp h) : ∃ (v : Int32) (h' : Ph), pm_Ex mtb (xsT 229) 229 7 1521 [.ref 172] h (some (.int v)) h' ∧ hI HTw RGw 229 h' ∧ Kp h' ∧ fr cx891.2.2.2.1 h h' := pub_q (hd891 hdL) (args := [(2, 172, 0)]) (es := []) (ws := []) (av := [.ref 172]) (by rfl) (by rfl) (by decide +kernel) (by decide +kernel) ⟨gvR, trivial⟩ (gsA trivial) hi kp
theorem mq_nights {h : Ph} (hi : hI HTw RGw 229 h) (kp : Kp h) : ∃ (v : Int32) (h' : Ph), pm_Ex mtb (xsT 229) 229 6 1484 [.ref 172] h (some (.int v)) h' ∧ hI HTw RGw 229 h' ∧ Kp h' ∧ fr cx911.2.2.2.1 h h' := pub_q hd911 (args := [(2, 172, 0)]) (es := []) (ws := []) (av := [.ref 172]) (by rfl) (by rfl) (by decide +kernel) (by decide +kernel) ⟨gvR, trivial⟩ (gsA trivial) hi kp
theorem xq_feed {h : Ph} (x1 x2 x3 : Int64) (hi : hI HTw RGw 229 h) (kp : Kp h) : ∃ (v : Int32) (h' : Ph), pm_Ex mtb (xsT 229) 229 2 1291 [.ref 0, .long x1, .long x2, .long x3] h (some (.int v)) h' ∧ hI HTw RGw 229 h' ∧ Kp h' ∧ fr cx1.2.2.2.1 h h' := pub_q hd1 (args := [(2, 0, 0), (1, 1, 0), (1, 2, 0), (1, 3, 0)]) (es := [tp64, tp64, tp64]) (ws := [x1.toInt, x2.toInt, x3.toInt]) (by rfl) (by rfl) (by decide +kernel) (by decide +kernel) ⟨gvR, gvL rfl, gvL rfl, gvL rfl, trivial⟩ (gsA ⟨i64 x1, i64 x2, i64 x3, trivial⟩) hi kp
theorem mq_feed {h : Ph} (x1 x2 x3 : Int64) (hi : hI HTw RGw 229 h) (kp : Kp h) : ∃ (v : Int32) (h' : Ph), pm_Ex mtb (xsT 229) 229 1 1434 [.ref 172, .long x1, .long x2, .long x3] h (some (.int v)) h' ∧ hI HTw RGw 229 h' ∧ Kp h' ∧ fr cx602.2.2.2.1 h h' := pub_q hd602 (args := [(2, 172, 0), (1, 1, 0), (1, 2, 0), (1, 3, 0)]) (es := [tp64, tp64, tp64]) (ws := [x1.toInt, x2.toInt, x3.toInt]) (by rfl) (by rfl) (by decide +kernel) (by decide +kernel) ⟨gvR, gvL rfl, gvL rfl, gvL rfl, trivial⟩ (gsA ⟨i64 x1, i64 x2, i64 x3, trivial⟩) hi kp
theorem xz_nights {h : Ph} (hi : hI HTw RGw 229 h) (kp : Kp h) : ∃ (v : Int32) (h' : Ph), pm_Ex mtb (xsT 229) 229 10 1304 [.ref 0] h (some (.int v)) h' ∧ hI HTw RGw 229 h' ∧ Kp h' ∧ fr cx359.2.2.2.1 h h' ∧ zH h' 1 0 = 0 := pub_zq hd359 (args := [(2, 0, 0)]) (es := []) (ws := []) (av := [.ref 0]) (by rfl) (by rfl) (by decide +kernel) (by decide +kernel) 1 0 (by decide) (by decide) (by decide +kernel) ⟨gvR, trivial⟩ (gsA trivial) hi kp
theorem mz_nights {h : Ph} (hi : hI HTw RGw 229 h) (kp : Kp h) : ∃ (v : Int32) (h' : Ph), pm_Ex mtb (xsT 229) 229 6 1484 [.ref 172] h (some (.int v)) h' ∧ hI HTw RGw 229 h' ∧ Kp h' ∧ fr cx911.2.2.2.1 h h' ∧ zH h' 172 1 = 0 := pub_zq hd911 (args := [(2, 172, 0)]) (es := []) (ws := []) (av := [.ref 172]) (by rfl) (by rfl) (by decide +kernel) (by decide +kernel) 172 1 (by decide) (by decide) (by decide +kernel) ⟨gvR, trivial⟩ (gsA trivial) hi kp
