/-! thrown of the model -/
abbrev cX11_thrown : ByteArray := prog_13_method_2_code
def yX11_thrown : MethodName := ⟨RX11, "thrown", "()I"⟩
def lkT : Lk := (lkX11.1, lkX11.2.1, lkX11.2.2.1, fun _ => none)
def meT : Me := (yX11_thrown, cX11_thrown, 1, some .int, lkT, false)
def mtT1 (k : Nat) : Option Me := if k = 0 then some meT else none
def xsN : Nat → Me → Cf → Cf → Prop := fun _ _ _ _ => False
theorem tT1 : Cond.code yX11_thrown cX11_thrown 1 (some .int) ∈ gw := List.mem_filter.mpr ⟨List.mem_append_right _ (by decide +kernel), by decide +kernel⟩
theorem tT2 : Cond.initialized RX11 ∈ gw := List.mem_filter.mpr ⟨List.mem_append_right _ (by decide +kernel), by decide +kernel⟩
theorem tT3 : Cond.instanceMethod yX11_thrown ∈ gw := List.mem_filter.mpr ⟨List.mem_append_right _ (by decide +kernel), by decide +kernel⟩
theorem tT4 : Cond.selects RX11 yX11_thrown yX11_thrown ∈ gw := List.mem_filter.mpr ⟨List.mem_append_right _ (by decide +kernel), by decide +kernel⟩
theorem tT5 : pm_ok RX11 lkT := ⟨lkX11_ok.1, lkX11_ok.2.1, lkX11_ok.2.2.1, lkX11_ok.2.2.2.1, lkX11_ok.2.2.2.2⟩
theorem tT6 : plainName RX11 = true := by decide +kernel
theorem mtT1_ok : pm_okM mtT1 := fun k me h => by
  have h : (if k = 0 then some meT else none) = some me := h
  by_cases c : k = 0
  · rw [if_pos c] at h
    cases h
    exact ⟨tT5, tT6, tT1, tT2, by decide, ⟨by decide, by decide⟩, Or.inr ⟨rfl, tT3, tT4⟩, fun idx k' np me' h => by cases h⟩
  · rw [if_neg c] at h
    cases h
theorem xsN_ok {aC aM ad : Nat → Nat} : pm_okX xsN mtT1 229 aC aM ad := fun _ _ _ _ _ _ _ _ _ _ _ _ _ _ _ _ _ _ _ h _ => h.elim
theorem dT0 : decode cX11_thrown 0 = .ok (.aload_n 0, 1) := by decide +kernel
theorem dT1 : decode cX11_thrown 1 = .ok (.getfield 180, 3) := by decide +kernel
theorem dT4 : decode cX11_thrown 4 = .ok (.ireturn, 1) := by decide +kernel
theorem thr_ex {h : Ph} (hi : hI HTw RGw 229 h) : ∃ x : Int32, pm_Ex mtT1 xsN 229 1 0 [.ref 172] h (some (.int x)) h ∧ x.toInt = zH h 172 0 := by
  obtain ⟨fs, e, el⟩ : ∃ fs, h 172 = .inr (11, fs) ∧ fs.length = 74 := (hi.1 172 (by decide)).2.1
  have hq : ((HTw 172).2.2.2.any fun q => decide (q.1 ≤ 0 ∧ 0 < q.2.1 ∧ q.2.2.1 = 0)) = true := by decide +kernel
  obtain ⟨q, hq, hp⟩ := List.any_eq_true.mp hq
  have hp := of_decide_eq_true hp
  obtain ⟨v, ev, gv⟩ := (hi.1 172 (by decide)).2.2 q hq 0 hp.1 hp.2.1
  have iv : ∃ x : Int32, v = .int x := by
    unfold gk at gv
    split at gv
    · exact ⟨_, rfl⟩
    · omega
    · omega
    · exact gv.elim
  obtain ⟨x, rfl⟩ := iv
  rw [e] at ev
  have ev : fs[0]? = some (.int x) := ev
  have a1 : lkT.1 180 = some (11, 0, .int, false) := rfl
  have a2 : pm_at? 229 h 172 = some (.inr (11, fs)) := by
    unfold pm_at?
    rw [if_pos (by decide), e]
  have g : pi_get lkT 229 180 (1, lv_args 0 [.ref 172], [.ref 172], h) = some (4, lv_args 0 [.ref 172], [.int x], h) := by
    show (lkT.1 180).bind (fun q => (pm_at? 229 h 172).bind (fun x => (pm_O x).bind (fun o => if o.1 = q.1 then (o.2[q.2.1]?).map (fun v => (1 + 3, lv_args 0 [.ref 172], v :: [], h)) else none))) = _
    rw [a1, a2]
    show (if 11 = 11 then (fs[0]?).map (fun v => (1 + 3, lv_args 0 [.ref 172], v :: [], h)) else none) = _
    rw [if_pos rfl, ev]
    rfl
  refine ⟨x, ⟨meT, rfl, by decide, 2, (4, lv_args 0 [.ref 172], [.int x], h), ⟨(1, lv_args 0 [.ref 172], [.ref 172], h), Or.inl ?_, (4, lv_args 0 [.ref 172], [.int x], h), Or.inl ?_, rfl⟩, ?_⟩, ?_⟩
  · show pm_sem lkT 229 1 cX11_thrown (0, lv_args 0 [.ref 172], [], h) = _
    unfold pm_sem
    rw [show decode cX11_thrown (0, lv_args 0 [Value.ref 172], ([] : List Value), h).1 = .ok (.aload_n 0, 1) from dT0]
    rfl
  · show pm_sem lkT 229 1 cX11_thrown (1, lv_args 0 [.ref 172], [.ref 172], h) = _
    unfold pm_sem
    rw [show decode cX11_thrown (1, lv_args 0 [Value.ref 172], [Value.ref 172], h).1 = .ok (.getfield 180, 3) from dT1]
    exact g
  · show pm_res (some .int) cX11_thrown (4, lv_args 0 [.ref 172], [.int x], h) = _
    unfold pm_res
    rw [show decode cX11_thrown (4, lv_args 0 [Value.ref 172], [Value.int x], h).1 = .ok (.ireturn, 1) from dT4]
    exact if_pos ⟨rfl, rfl⟩
  · unfold zH
    rw [if_neg (by decide), e]
    show _ = zso (fs[0]?)
    rw [ev]
    rfl
theorem pr_restsT {h : Ph} {t : Nat} {D : ZD} {S : ZS} {H : List ZS} {K : Nat → Option ZS} (x1 x2 x3 x4 : Int32) (hk : kJ h) (w : zKp (zH h) t D S H K) : ∃ (v2 : Int32) (h2 : Ph), pm_Ex mtb (xsT 229) 229 2 1506 [.ref 172, .int x1, .int x2, .int x3, .int x4] h (some (.int v2)) h2 ∧ kJ h2 ∧ (rvV D S x1.toInt x2.toInt x3.toInt x4.toInt ≠ -1 → v2.toInt = rvV D S x1.toInt x2.toInt x3.toInt x4.toInt ∧ zH h2 172 0 = 0) ∧ (rvV D S x1.toInt x2.toInt x3.toInt x4.toInt = -1 → zH h2 172 0 = 1) := by
  obtain ⟨v2, h2, e2, i2, p2, f2⟩ := mq_rests x1 x2 x3 x4 hk.1 hk.2.1
  have w0 := w
  obtain ⟨-, ⟨ht, t3, -, hd, ⟨hw, hF, hX, -⟩, -⟩, w3, -⟩ := w0
  obtain ⟨m7, m8, -⟩ := w.2.2.2.2.1
  obtain ⟨-, g1, g2⟩ := zC_run e2 (by decide +kernel) hk.2.1 (fun n => rests_m m7 hw hX m8 w3.1 (x := x1.toInt) (y := x2.toInt) (f := x3.toInt) (w := x4.toInt))
  exact ⟨v2, h2, e2, ⟨i2, p2, zK_kp hk.2.2 (kp_fr f2 (by decide +kernel))⟩, fun q => ⟨zv1 (g1 q).1, (g1 q).2⟩, g2⟩
section La
variable {p : Program} {l : Launch} {e : Env} {s : State} {m : MethodId} {args : Array Value} {below : List Frame} {meth : Method} {c : Code} {H : Heap} {locs : List Loc} {cells slots : Nat} {Q : State → Prop}
variable {g : va_G} {aC : Nat → ClassId} {aM ad : Nat → Nat} {A : Nat → Prop} {oa : Nat} {fo : Nat → Int64} {h : Ph} {ls : Array Slot} {pc : Nat} {st0 rest : List Value}
theorem law_callT {k d idx b0 ci : Nat} (np : Nat) {me' : Me} {As : List Value} {v : Value} {h' : Ph} {q : vw_C} (F : Fx p s m args c code 7 RL g aC aM A) (had : pm_ad aM ad) (hcs : cells + 1 ≤ 601024 ∧ slots + 6 ≤ 7293034) (hP : va_P g vwCl (wO aC ad oa fo h) H) (hD : va_D A (wO aC ad oa fo h)) (hS : va_S A s.heap H locs) (hsz : ls.size = 7)
    (hme : mtT1 k = some me') (hex : pm_Ex mtT1 xsN 229 d k (.ref b0 :: As) h (some v) h') (hd40 : d ≤ 40) (hAs : As.map (pm_v ad) = As) (hb0 : b0 < 229) (hh : ∃ fs, h b0 = .inr (ci, fs)) (hq : vwCl[ci]? = some q) (hqc : q.1 = me'.1.cls) (hst : me'.2.2.2.2.2 = false) (hlk : Cond.methodLink RL idx me'.1 ∈ gw) (hnp : (parseMethodDescriptor me'.1.desc).map (fun d => d.parameters.length) = some np) (hlen : As.length = np)
    (hrest : (rest.map fun v => v.category).sum ≤ 8) (hdg : decode code pc = .ok (.invokevirtual idx, 3)) (hc1 : v.category = 1) (hst0 : st0 = As.reverse ++ .ref (ad b0) :: rest)
    (kk : ∀ (x : Int32) (H1 : Heap) (locs1 : List Loc), v = .int x → va_P g vwCl (wO aC ad oa fo h') H1 → va_D A (wO aC ad oa fo h') → va_S A s.heap H1 locs1 → W p l e room_1 s m args below meth c H1 locs1 cells slots Q (F0 m (pc + 3) ls (.int x :: rest))) : W p l e room_1 s m args below meth c H locs cells slots Q (F0 m pc ls st0) := by
  obtain ⟨o1, o2, o3, o4, o5, o6, o7, o8⟩ := mtT1_ok k me' hme
  have ct := pm_Ex_ok (l := l) (g := g) (aC := aC) mtT1_ok xsN_ok had d k me' _ h _ h' hme hex
  rw [List.map_cons, hAs] at ct
  have ct : Ct l g aC aM me'.1 me'.2.1 me'.2.2.1 me'.2.2.2.1 d (.ref (ad b0) :: As) (pm_w aC ad 229 h) (pm_Qx g aC ad 229 (some v) h') 0 0 := ct
  obtain ⟨fs, hfs⟩ := hh
  have hat : (wO aC ad oa fo h)[b0 + 1]? = some (ad b0, .inr (ci, fs.map (pm_v ad))) := by
    show (pm_w aC ad 229 h)[b0]? = _
    rw [pm_at hb0, hfs]
    rfl
  rcases o7 with ⟨o7, -⟩ | ⟨-, o7, o9⟩
  · rw [hst] at o7; cases o7
  have hrun := runV (l := l) (e := e) (below := below) (meth := meth) (R := room_1) (cells := cells) (slots := slots) (n := np) (b := ad b0) (As := As) F hP hD hS ct rg1 rg1_nd rg1_C (b0 + 1) ci hq hat hqc o3 hlk o7 o9 o4 ⟨o6.1, o6.2, hnp⟩ ⟨by show d + 1 ≤ 2048; omega, by show 8 + (me'.2.2.1 + 11) + 60 * d ≤ 84000; omega⟩ hlen hsz hst0 hrest hdg ⟨by show cells + 0 ≤ 601024; omega, by show slots + 0 ≤ 7293034; omega⟩
  cases v with
  | int x =>
    refine goI (a := (Value.ref (ad b0) :: As).toArray) (post := fun (y : Int32) (_ : Unit) => y = x) (w1 := fun _ => pm_w aC ad 229 h') (wr := [oC aC oa fo]) hrun hP hD hS F.2.2.2.2.2.2.1 rg1 [0] rg1_C rg1_R rfl rg1_dis (fun r u H1 locs1 hw hP1 hD1 hS1 => ?_)
    have hw : r = x := hw
    subst hw
    exact kk r H1 locs1 rfl hP1 hD1 hS1
  | long x => cases hc1
  | float x => exact law_noQ (fun _ _ _ h => h) hrun
  | double x => cases hc1
  | null => exact law_noQ (fun _ _ _ h => h) hrun
  | ref x => exact law_noQ (fun _ _ _ h => h) hrun
  | retAddr x => exact law_noQ (fun _ _ _ h => h) hrun
end La
theorem lcmp_rf (x : Int64) : lg_cmp x x = 0 := by
  unfold lg_cmp
  simp
