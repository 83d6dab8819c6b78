/-! the class's rests as a contract that may throw; the law's own rests -/
theorem pP_new {g : va_G} {ws : va_W} {H H1 : Heap} (hP : va_P g vwCl ws H) (hq : ∀ q : Nat, q < H.size → H1[q]? = H[q]?) : va_P g vwCl ws H1 := hP.kept (fun k q hk => hq q.1 (hP k q hk).lt)
set_option maxHeartbeats 4000000 in
theorem x_rests2 (l : Launch) (hst : l.stackTraces = false) (g : va_G) (aC : Nat → ClassId) (aM ad : Nat → Nat) (had : pm_ad aM ad) {h : Ph} {J : Ph → Prop} (hi : hI HTw RGw 229 h) (hJ : ∀ h', hI HTw RGw 229 h' → fr [] h h' → J h') (y1 y2 y3 y4 : Int32) : CtX2 l g aC aM ad [.ref (ad 0), .int y1, .int y2, .int y3, .int y4] h J := by
  intro sz
  refine vx_ofW (cc := cX10_rests) (maxL := 6) (ret := some .int) (by decide) rfl ?_
  intro p e s m args below meth c s₁ B hml htab hv
  obtain ⟨rfl, ⟨hsz, hP, hK, hD0, hM, hM2⟩, hAX, hAB⟩ := hv
  have hts0 := atoms_spec (ws := uw yX10_rests cX10_rests 6 (some .int)) B.pre
  have hts : ∀ w ∈ gw, w.before _ s = true := fun w h => hts0 w (List.mem_cons_of_mem _ h)
  subst hsz
  have hl := lv_entry [.ref (ad 0), .int y1, .int y2, .int y3, .int y4] (n := 6) (Nat.le_of_ble_eq_true rfl)
  rw [lg_entry_eq]
  generalize (lg_sl [.ref (ad 0), .int y1, .int y2, .int y3, .int y4] ++ List.replicate (6 - (lg_sl [.ref (ad 0), .int y1, .int y2, .int y3, .int y4]).length) Slot.unset).toArray = ls at hl ⊢
  have hx := B.exec
  have hb := B.bytes
  have hr := B.returns
  have hlk := B.notSynchronized
  have hown : s.vm.findClass RX10 = some m.cls := findClass_of_methodNamed B.named
  have hD := hD0.self (sz := s.heap.size)
  have hA : ∀ q, s.heap.size ≤ q → va_A (pm_w aC ad 229 h) s.heap.size q := fun q h => Or.inr h
  generalize va_A (pm_w aC ad 229 h) s.heap.size = A at hD hA hM hAX ⊢
  have hS : va_S A s.heap s.heap [] := va_S.rf
  have F : Fx p s m _ c cX10_rests 6 RX10 g aC aM A := ⟨hx, hb, hml, hown, hts, hK, hA, hM, hM2⟩
  have hl : lv_has ls 6 (pm_l ad (lv_args 0 [.ref 0, .int y1, .int y2, .int y3, .int y4])) := hl
  have hat : ∀ w ∈ xt_at RX10 275 NSE 13 rxN sup2, w.before _ s = true := vx_hat (L := atR) (B := BB) (fun w h => hts w (atR_in w h)) (fun _ h => h) (fun w h => (hAB w h).use (BB_on w h))
  have main : pm_W p l e (rmL 8 1 6) s m #[.ref (ad 0), .int y1, .int y2, .int y3, .int y4] below meth c (vx_MQ below (QI g (fun (_ : Int32) (h' : Ph) => J h') (fun h' => pm_w aC ad 229 h') A) (vx_X (fun h' : Ph => J h') (fun E h' t => E = NSE ∧ va_P g vwCl (pm_w aC ad 229 h') t.heap ∧ va_D A (pm_w aC ad 229 h')) A) #[.ref (ad 0), .int y1, .int y2, .int y3, .int y4] s 1 6 A) g aC A ad 229 6 (0, lv_args 0 [.ref 0, .int y1, .int y2, .int y3, .int y4], [], h) := by
    refine rn_to (vs0 := [0, y1.toInt, y2.toInt, y3.toInt, y4.toInt]) (h0 := h) (md := []) (S := rS 7) (fun a b hab kb => rS_ok ⟨Nat.le_of_ble_eq_true rfl, Nat.le_of_ble_eq_true rfl⟩ had F hab kb) (r_nx (by decide)) (fun cu hc2 vs' cf' g' hp' => ?_) 200 rA0 [0, y1.toInt, y2.toInt, y3.toInt, y4.toInt] _ ⟨rfl, gl_cons rfl gvR (gl_cons rfl (gvI rfl) (gl_cons rfl (gvI rfl) (gl_cons rfl (gvI rfl) (gl_cons rfl (gvI rfl) gl_nil)))), trivial, gsA ⟨i32 y1, i32 y2, i32 y3, i32 y4, trivial⟩, fun q hq => (by cases hq), hi, fun c j _ => rfl⟩ ⟨[], rfl⟩ rK_ok
    simp only [List.mem_cons, List.not_mem_nil, or_false] at hc2
    intro H locs ls hP hD hS hl
    rcases hc2 with rfl | rfl | rfl
    · obtain ⟨p0, p1, p2, p3, p4, p5, p6⟩ := g'
      rw [gst_nil p2, show cf'.1 = 44 from p0]
      exact xt_throw (mc := 1) (ms := 6) (cls := NSE) (names := sup2) (rx := rxN) hx hb hst (by decide +kernel) (by decide +kernel) (by decide +kernel) (by decide +kernel) hown (by decide +kernel) (by decide +kernel) (hts _ rx1) (hts _ rx2) (hM2.2.2.2.2.2 4 (by decide)) hat (by decide +kernel) hAX.1 hAX.2 hS (hl.1.trans hml.symm) drX_44 drX_47 drX_48 drX_51 drX_54 (fun x h => (htab x h).elim) (by decide) (Nat.le_of_ble_eq_true rfl) (Nat.le_of_ble_eq_true rfl) (Nat.le_of_ble_eq_true rfl) hlk (fun t _ h1 h2 => ⟨cf'.2.2.2, hJ _ p5 p6, ⟨rfl, pP_new hP h2, hD⟩, Nat.le_trans hS.1 h1, fun q hq hA9 => (h2 q (Nat.lt_of_lt_of_le hq hS.1)).trans (hS.2.1 q hq hA9)⟩) hS.2.2 (Nat.le_of_ble_eq_true rfl) (Nat.le_of_ble_eq_true rfl)
    · obtain ⟨p0, p1, p2, p3, p4, p5, p6⟩ := g'
      rw [gst_nil p2, show cf'.1 = 86 from p0]
      exact xt_throw (mc := 1) (ms := 6) (cls := NSE) (names := sup2) (rx := rxN) hx hb hst (by decide +kernel) (by decide +kernel) (by decide +kernel) (by decide +kernel) hown (by decide +kernel) (by decide +kernel) (hts _ rx1) (hts _ rx2) (hM2.2.2.2.2.2 5 (by decide)) hat (by decide +kernel) hAX.1 hAX.2 hS (hl.1.trans hml.symm) drX_86 drX_89 drX_90 drX_93 drX_96 (fun x h => (htab x h).elim) (by decide) (Nat.le_of_ble_eq_true rfl) (Nat.le_of_ble_eq_true rfl) (Nat.le_of_ble_eq_true rfl) hlk (fun t _ h1 h2 => ⟨cf'.2.2.2, hJ _ p5 p6, ⟨rfl, pP_new hP h2, hD⟩, Nat.le_trans hS.1 h1, fun q hq hA9 => (h2 q (Nat.lt_of_lt_of_le hq hS.1)).trans (hS.2.1 q hq hA9)⟩) hS.2.2 (Nat.le_of_ble_eq_true rfl) (Nat.le_of_ble_eq_true rfl)
    · obtain ⟨p0, p1, p2, p3, p4, p5, p6⟩ := g'
      obtain ⟨v, us, e5, e6, e7⟩ := gst_cons p2
      have := gst_nil e7
      subst this
      obtain ⟨y, w, rfl, z1, z2⟩ := gv_int e6 rfl
      rw [e5, show cf'.1 = 99 from p0]
      refine vx_ret ?_
      exact rI (post := fun (_ : Int32) (h' : Ph) => J h') (w1 := fun h' => pm_w aC ad 229 h') cf'.2.2.2 hx hb hr hlk rfl hS (hJ _ p5 p6) hP hD (Nat.le_of_ble_eq_true rfl) (Nat.le_of_ble_eq_true rfl) drX_99
  exact main s.heap [] ls hP hD hS hl
theorem rl1 : Cond.classLink RL 13 NSE ∈ gw := List.mem_filter.mpr ⟨List.mem_append_right _ (by decide +kernel), by decide +kernel⟩
theorem rl2 : Cond.methodLink RL 7 yX10_rests ∈ gw := List.mem_filter.mpr ⟨List.mem_append_right _ (by decide +kernel), by decide +kernel⟩
theorem rl3 : Cond.instanceMethod yX10_rests ∈ gw := List.mem_filter.mpr ⟨List.mem_append_right _ (by decide +kernel), by decide +kernel⟩
theorem rl4 : Cond.selects RX10 yX10_rests yX10_rests ∈ gw := List.mem_filter.mpr ⟨List.mem_append_right _ (by decide +kernel), by decide +kernel⟩
theorem rl5 : Cond.code yX10_rests cX10_rests 6 (some .int) ∈ gw := List.mem_filter.mpr ⟨List.mem_append_right _ (by decide +kernel), by decide +kernel⟩
theorem rl6 : Cond.initialized RX10 ∈ gw := List.mem_filter.mpr ⟨List.mem_append_right _ (by decide +kernel), by decide +kernel⟩
theorem dL_rests_0 : decode cL_rests 0 = .ok (.aload 5, 2) := by decide +kernel
theorem dL_rests_2 : decode cL_rests 2 = .ok (.iconst 0, 1) := by decide +kernel
theorem dL_rests_3 : decode cL_rests 3 = .ok (.aload_n 0, 1) := by decide +kernel
theorem dL_rests_4 : decode cL_rests 4 = .ok (.iload_n 1, 1) := by decide +kernel
theorem dL_rests_5 : decode cL_rests 5 = .ok (.iload_n 2, 1) := by decide +kernel
theorem dL_rests_6 : decode cL_rests 6 = .ok (.iload_n 3, 1) := by decide +kernel
theorem dL_rests_7 : decode cL_rests 7 = .ok (.iload 4, 2) := by decide +kernel
theorem dL_rests_9 : decode cL_rests 9 = .ok (.invokevirtual 7, 3) := by decide +kernel
theorem dL_rests_12 : decode cL_rests 12 = .ok (.i2l, 1) := by decide +kernel
theorem dL_rests_13 : decode cL_rests 13 = .ok (.lastore, 1) := by decide +kernel
theorem dL_rests_14 : decode cL_rests 14 = .ok (.goto 7, 3) := by decide +kernel
theorem dL_rests_17 : decode cL_rests 17 = .ok (.astore 6, 2) := by decide +kernel
theorem dL_rests_19 : decode cL_rests 19 = .ok (.iconst 1, 1) := by decide +kernel
theorem dL_rests_20 : decode cL_rests 20 = .ok (.ireturn, 1) := by decide +kernel
theorem dL_rests_21 : decode cL_rests 21 = .ok (.iconst 0, 1) := by decide +kernel
theorem dL_rests_22 : decode cL_rests 22 = .ok (.ireturn, 1) := by decide +kernel
def hhR : List (Nat × Nat × Nat × Nat) := [(0, 14, 17, 13)]
def uwR : List Cond := Cond.codeWith yL_rests cL_rests 7 (some .int) hhR :: gw
/-- the law's cell beside the world -/
def oC (aC : Nat → ClassId) (oa : Nat) (fo : Nat → Int64) : Nat × va_E := (oa, .inl (aC 1, 1, .inr (.inl fo)))
def wO (aC ad : Nat → Nat) (oa : Nat) (fo : Nat → Int64) (h : Ph) : va_W := oC aC oa fo :: pm_w aC ad 229 h
def rg1 : List Nat := (List.range 229).map (· + 1)
theorem rg1_nd : va_nd rg1 = true := by decide +kernel
theorem rg1_C {aC ad : Nat → Nat} {oa : Nat} {fo : Nat → Int64} {h : Ph} : rg1.map (fun i => (wO aC ad oa fo h)[i]?) = (pm_w aC ad 229 h).map some := by
  rw [← pm_all (aC := aC) (ad := ad) (n := 229) (h := h)]
  unfold rg1
  rw [List.map_map]
  rfl
theorem rg1_R {aC ad : Nat → Nat} {oa : Nat} {fo : Nat → Int64} {h : Ph} : [0].map (fun i => (wO aC ad oa fo h)[i]?) = [oC aC oa fo].map some := rfl
theorem rg1_dis : ∀ i ∈ [0], i ∉ rg1 := by decide +kernel
/-- the law's own rests: what is thrown is caught -/
def CtR2 (l : Launch) (g : va_G) (aC : Nat → ClassId) (aM ad : Nat → Nat) (av : List Value) (oa : Nat) (fo : Nat → Int64) (h : Ph) (J : Ph → Prop) : Prop :=
  ∀ sz : Nat, vx_Met l yL_rests uwR (rmL 9 1 6) (va_Pc av (PrX g aC aM (wO aC ad oa fo h) sz)) (QI g (fun (_ : Int32) (u : Ph × (Nat → Int64)) => J u.1) (fun u => wO aC ad oa u.2 u.1) (va_A (wO aC ad oa fo h) sz)) (vx_X (fun _ : Unit => False) (fun _ _ _ => True) (va_A (wO aC ad oa fo h) sz)) 1 6 (va_A (wO aC ad oa fo h) sz)
set_option maxHeartbeats 4000000 in
theorem l_rests2 (l : Launch) (hst : l.stackTraces = false) (g : va_G) (aC : Nat → ClassId) (aM ad : Nat → Nat) (had : pm_ad aM ad) {h : Ph} {J : Ph → Prop} (hi : hI HTw RGw 229 h) (hJ : ∀ h', hI HTw RGw 229 h' → fr [] h h' → J h') (oa : Nat) (fo : Nat → Int64) (y1 y2 y3 y4 : Int32) : CtR2 l g aC aM ad [.ref (ad 0), .int y1, .int y2, .int y3, .int y4, .ref oa] oa fo h J := by
  intro sz
  refine vx_ofWH (cc := cL_rests) (maxL := 7) (ret := some .int) (hh := hhR) (by decide) rfl ?_
  intro p e s m args below meth c s₁ B hml hv
  obtain ⟨rfl, ⟨hsz, hP, hK, hD0, hM, hM2⟩, hAX, hAB⟩ := hv
  have hts0 := atoms_spec (ws := uwR) B.pre
  have hts : ∀ w ∈ gw, w.before _ s = true := fun w h => hts0 w (List.mem_cons_of_mem _ h)
  have htab := vx_table (x := yL_rests) B (hts0 _ List.mem_cons_self)
  subst hsz
  have hl := lv_entry [.ref (ad 0), .int y1, .int y2, .int y3, .int y4, .ref oa] (n := 7) (Nat.le_of_ble_eq_true rfl)
  rw [lg_entry_eq]
  generalize (lg_sl [.ref (ad 0), .int y1, .int y2, .int y3, .int y4, .ref oa] ++ List.replicate (7 - (lg_sl [.ref (ad 0), .int y1, .int y2, .int y3, .int y4, .ref oa]).length) Slot.unset).toArray = ls at hl ⊢
  have hx := B.exec
  have hb := B.bytes
  have hr := B.returns
  have hlk := B.notSynchronized
  have hown : s.vm.findClass RL = some m.cls := findClass_of_methodNamed B.named
  have hD := hD0.self (sz := s.heap.size)
  have hA : ∀ q, s.heap.size ≤ q → va_A (wO aC ad oa fo h) s.heap.size q := fun q h => Or.inr h
  generalize hAe : va_A (wO aC ad oa fo h) s.heap.size = A at hD hA hM hAX ⊢
  have hS : va_S A s.heap s.heap [] := va_S.rf
  have F : Fx p s m _ c cL_rests 7 RL g aC aM A := ⟨hx, hb, hml, hown, hts, hK, hA, hM, hM2⟩
  have hl : lv_has ls 7 [(0, .ref (ad 0)), (1, .int y1), (2, .int y2), (3, .int y3), (4, .int y4), (5, .ref oa)] := hl
  refine lv_aload hx hb dL_rests_0 (lv_at hl 5 rfl) ?_
  refine lv_iconst (v := 0) hx hb dL_rests_2 (by decide) ?_
  refine lv_aload_n hx hb dL_rests_3 rfl (lv_at hl 0 rfl) ?_
  refine lv_iload_n hx hb dL_rests_4 rfl (lv_at hl 1 rfl) ?_
  refine lv_iload_n hx hb dL_rests_5 rfl (lv_at hl 2 rfl) ?_
  refine lv_iload_n hx hb dL_rests_6 rfl (lv_at hl 3 rfl) ?_
  refine lv_iload hx hb dL_rests_7 (lv_at hl 4 rfl) ?_
  have hG : GoodIn gw (wsV RL 7 RX10 yX10_rests (uw yX10_rests cX10_rests 6 (some .int))) := fun w hw => by
    rcases List.mem_append.mp hw with h | h
    · have hm : w ∈ gw := by
        simp only [List.mem_cons, List.not_mem_nil, or_false] at h
        rcases h with h | h | h | h
        · rw [h]; exact rl2
        · rw [h]; exact rl3
        · rw [h]; exact rl4
        · rw [h]; exact rl6
      exact ⟨hm, good_of_word (List.all_eq_true.mp lw_good w hm)⟩
    · exact uw_good rl5 w h
  have hF := va_free (wc := pm_w aC ad 229 h) hD hS hA rg1 rg1_C
  obtain ⟨fs, hfs, -⟩ : ∃ fs, h 0 = .inr (10, fs) ∧ fs.length = 16 := (hi.1 0 (by decide)).2.1
  have h0 : (wO aC ad oa fo h)[1]? = some (ad 0, .inr (10, fs.map (pm_v ad))) := by
    show (pm_w aC ad 229 h)[0]? = _
    rw [pm_at (by decide), hfs]
    rfl
  have hrun := vx_runV (e := e) (below := below) (meth := meth) (R := (headSpec uwR (rmL 9 1 6)).room) (cells := 0) (slots := 0) (locs := []) (g := F0 m 9 ls [.int y4, .int y3, .int y2, .int y1, .ref (ad 0), .int 0, .ref oa]) (As := [.int y1, .int y2, .int y3, .int y4]) (rest := [.int 0, .ref oa]) (C := RX10) (Ts := gw) (own := RL) (n := 4) ⟨hx, hb, hml, hown, hts⟩ (x_rests2 l hst g aC aM ad had hi hJ y1 y2 y3 y4 s.heap.size) (cwV 4 hts hG rfl rfl rfl (by decide +kernel) ⟨Nat.le_of_ble_eq_true rfl, Nat.le_of_ble_eq_true rfl⟩) ⟨PrX.blind, va_recv hK hP (ci := 10) (q0 := 1) rfl h0, preX_of F hAX hAB hP hD hS rg1 rg1_nd rg1_C⟩ rfl rfl hl.1 rfl (lv_room (Nat.le_of_ble_eq_true rfl)) dL_rests_9 ⟨Nat.le_of_ble_eq_true rfl, Nat.le_of_ble_eq_true rfl⟩
  refine vx_calli hrun hS (fun q _ h => hF q h) hF (fun q _ h => hF q h) (fun E ce q9 u t H1 locs1 ht hvm hp hB hz1 hk1 hS1 hce hcv hcl => ?_) (fun r u t H1 locs1 ht hvm hw hB hz1 hk1 hS1 => ?_)
  · obtain ⟨hE, hP1, hD1⟩ := hB
    subst hE
    rw [ht] at hP1
    obtain ⟨hP2, hD2⟩ := va_join (wr := [oC aC oa fo]) (w1 := pm_w aC ad 229 u) hP hD rg1 [0] rg1_C rg1_R rfl rg1_dis hk1 hF hP1 hD1
    refine vx_catch (name := NSE) hown [] ⟨0, 14, 17, 13⟩ [] htab (fun z h => absurd h List.not_mem_nil) (by decide) (by decide) (hts _ rl1) ((hAB (.castable NSE NSE) (by decide +kernel)).use rfl) hce hcv hcl ?_
    refine lv_astore (lv' := [(6, .ref q9), (0, .ref (ad 0)), (1, .int y1), (2, .int y2), (3, .int y3), (4, .int y4), (5, .ref oa)]) hx hb dL_rests_17 hl (by decide) rfl (fun ls hl => ?_)
    refine lv_iconst (v := 1) hx hb dL_rests_19 (by decide) ?_
    refine vx_ret ?_
    exact rI (post := fun (_ : Int32) (u : Ph × (Nat → Int64)) => J u.1) (w1 := fun u => wO aC ad oa u.2 u.1) (u, fo) hx hb hr hlk rfl hS1 hp hP2 hD2 (Nat.le_of_ble_eq_true rfl) (Nat.le_of_ble_eq_true rfl) dL_rests_20
  · obtain ⟨hP1, hD1⟩ := hB
    rw [ht] at hP1
    obtain ⟨hP2, hD2⟩ := va_join (wr := [oC aC oa fo]) (w1 := pm_w aC ad 229 u) hP hD rg1 [0] rg1_C rg1_R rfl rg1_dis hk1 hF hP1 hD1
    refine lv_i2l hx hb dL_rests_12 rfl ?_
    refine xlst F hP2 hD2 hS1 0 rfl 0 (by decide +kernel) (by decide +kernel) (by decide) rfl dL_rests_13 (fun H2 locs2 hP3 hD3 hS3 => ?_)
    refine lv_goto (tgt := 21) hx hb dL_rests_14 (by decide) ?_
    refine lv_iconst (v := 0) hx hb dL_rests_21 (by decide) ?_
    refine vx_ret ?_
    exact rI (post := fun (_ : Int32) (u : Ph × (Nat → Int64)) => J u.1) (w1 := fun u => wO aC ad oa u.2 u.1) (u, vp_updL fo 0 r.toInt64) hx hb hr hlk rfl hS3 hw hP3 hD3 (Nat.le_of_ble_eq_true rfl) (Nat.le_of_ble_eq_true rfl) dL_rests_22
