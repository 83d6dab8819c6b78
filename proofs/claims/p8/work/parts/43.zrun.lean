/-! runs of the pure machine are runs of the machine of whole numbers -/
def zCn (i : Nat) : String := match i with
  | 0 => RX0
  | 1 => RX1
  | 2 => RX2
  | 3 => RX3
  | 4 => RX4
  | 5 => RX5
  | 6 => RX6
  | 7 => RX7
  | 8 => RX8
  | 9 => RX9
  | 10 => RX10
  | 11 => RX11
  | 12 => RJ6
  | _ => RJ7
def zlk (i : Nat) : Lk := match i with
  | 0 => lkX0
  | 1 => lkX1
  | 2 => lkX2
  | 3 => lkX3
  | 4 => lkX4
  | 5 => lkX5
  | 6 => lkX6
  | 7 => lkX7
  | 8 => lkX8
  | 9 => lkX9
  | 10 => lkX10
  | 11 => lkX11
  | 12 => lkJ6
  | _ => lkJ7
def zXT : List (Nat × Nat × Nat) := [(1, 27, 1), (3, 55, 3), (5, 32, 5), (6, 46, 5), (6, 99, 1), (6, 104, 0), (7, 78, 4), (8, 100, 1), (8, 106, 0), (10, 311, 2), (11, 526, 0)]
def zkO (y : MethodName) : Option Nat := if y = Lib.Math.max.name then some 0 else if y = Lib.Math.min.name then some 1 else if y = Lib.Math.abs.name then some 2 else if y = Lib.MathLoose.max_long.x then some 3 else if y = yIdx then some 4 else if y = yCpy then some 5 else none
def zxw (w : Cond) : Bool := match w with
  | .methodLink own i y => (match zkO y with
    | none => true
    | some q => !((List.range 14).any fun t => zCn t == own) || zXT.any fun e => zCn e.1 == own && (e.2.1 == i && e.2.2 == q))
  | _ => true
theorem zxw_all : (lw_tbl.all fun w => !goodWord w || zxw w) = true := by decide +kernel
theorem zCn_inj : ((List.range 14).all fun a => (List.range 14).all fun b => !(zCn a == zCn b) || a == b) = true := by decide +kernel
theorem zXT_ok : (zXT.all fun q => decide (q.1 < 14) && (zE (128 * q.1) q.2.1 == some q.2.2 && ((zlk q.1).2.2.2 q.2.1).isNone)) = true := by decide +kernel
theorem zx_link {a idx q : Nat} {y : MethodName} (ha : a < 14) (hw : Cond.methodLink (zCn a) idx y ∈ gw) (hy : zkO y = some q) : zE (128 * a) idx = some q ∧ (zlk a).2.2.2 idx = none := by
  obtain ⟨h1, h2⟩ := List.mem_filter.mp hw
  have h3 := List.all_eq_true.mp zxw_all _ h1
  rw [h2] at h3
  have h3 : zxw (Cond.methodLink (zCn a) idx y) = true := by simpa using h3
  unfold zxw at h3
  dsimp only at h3
  rw [hy] at h3
  dsimp only at h3
  have h4 : ((List.range 14).any fun t => zCn t == zCn a) = true := List.any_eq_true.mpr ⟨a, List.mem_range.mpr ha, beq_self_eq_true _⟩
  rw [h4] at h3
  simp only [Bool.not_true, Bool.false_or] at h3
  obtain ⟨e, he, h5⟩ := List.any_eq_true.mp h3
  simp only [Bool.and_eq_true, beq_iff_eq] at h5
  obtain ⟨h5, h6, h7⟩ := h5
  have h8 := List.all_eq_true.mp zXT_ok e he
  simp only [Bool.and_eq_true, decide_eq_true_eq, beq_iff_eq, Option.isNone_iff_eq_none] at h8
  obtain ⟨h8, h9, h10⟩ := h8
  have h11 := List.all_eq_true.mp (List.all_eq_true.mp zCn_inj e.1 (List.mem_range.mpr h8)) a (List.mem_range.mpr ha)
  have h12 : e.1 = a := by
    rw [h5] at h11
    simpa using h11
  rw [← h12, ← h6, ← h7]
  exact ⟨h9, h10⟩
def tyQ (ty : FieldType) : Nat := match ty with
  | .long => 2
  | .double => 2
  | _ => 1
theorem tyQ_ok {ty : FieldType} {v : Value} (h : fits ty v = true) : v.category = tyQ ty := by
  cases ty <;> cases v <;> first | rfl | cases h
def zfB (e : Nat × Nat × Nat × FieldType × Bool) : Bool := (tyQ e.2.2.2.1 == 1 + zcat e.2.1 e.2.2.1) && (e.2.2.2.2 || !(zfin e.2.1 e.2.2.1))
theorem zLk_of {lf : List (Nat × Nat × Nat × FieldType × Bool)} {L : Lk} (h : (lf.all zfB) = true) (hL : L.1 = pm_lk lf) : zLk L := fun idx ci j ty fin hi => by
  rw [hL] at hi
  have := List.all_eq_true.mp h _ (pm_lk_mem hi)
  unfold zfB at this
  simp only [Bool.and_eq_true, beq_iff_eq, Bool.or_eq_true, Bool.not_eq_true'] at this
  refine ⟨fun v hv => by rw [tyQ_ok hv]; exact this.1, fun hf => ?_⟩
  rcases this.2 with h2 | h2
  · rw [hf] at h2
    cases h2
  · exact h2
theorem zlk_ok (a : Nat) (ha : a < 14) : zLk (zlk a) := by
  have : a = 0 ∨ a = 1 ∨ a = 2 ∨ a = 3 ∨ a = 4 ∨ a = 5 ∨ a = 6 ∨ a = 7 ∨ a = 8 ∨ a = 9 ∨ a = 10 ∨ a = 11 ∨ a = 12 ∨ a = 13 := by omega
  rcases this with rfl | rfl | rfl | rfl | rfl | rfl | rfl | rfl | rfl | rfl | rfl | rfl | rfl | rfl
  · exact zLk_of (lf := lfX0) (by decide +kernel) rfl
  · exact zLk_of (lf := lfX1) (by decide +kernel) rfl
  · exact zLk_of (lf := lfX2) (by decide +kernel) rfl
  · exact zLk_of (lf := lfX3) (by decide +kernel) rfl
  · exact zLk_of (lf := lfX4) (by decide +kernel) rfl
  · exact zLk_of (lf := lfX5) (by decide +kernel) rfl
  · exact zLk_of (lf := lfX6) (by decide +kernel) rfl
  · exact zLk_of (lf := lfX7) (by decide +kernel) rfl
  · exact zLk_of (lf := lfX8) (by decide +kernel) rfl
  · exact zLk_of (lf := lfX9) (by decide +kernel) rfl
  · exact zLk_of (lf := lfX10) (by decide +kernel) rfl
  · exact zLk_of (lf := lfX11) (by decide +kernel) rfl
  · exact zLk_of (lf := lfJ6) (by decide +kernel) rfl
  · exact zLk_of (lf := lfJ7) (by decide +kernel) rfl
/-- tables of code: they are what stands there, and closed -/
def zok (k : Nat) : Bool := !(zPl k).isEmpty
def zsu (o : Op0) : List Nat := match o.1 with
  | 13 => [o.2.2.2.2.1, o.2.1]
  | 14 => [o.2.2.2.2.1, o.2.1]
  | 15 => o.2.2.2.2.1 :: o.2.2.2.2.2
  | 22 => []
  | _ => [o.2.2.2.2.1]
theorem zsc_su {o : Op0} {pc : Nat} (h : zsc o pc = true) : pc ∈ zsu o := by
  unfold zsc at h
  unfold zsu
  split at h
  · rename_i e
    rw [e]
    simp only [Bool.or_eq_true, beq_iff_eq] at h
    rcases h with h | h <;> simp [h]
  · rename_i e
    rw [e]
    simp only [Bool.or_eq_true, beq_iff_eq] at h
    rcases h with h | h <;> simp [h]
  · rename_i e
    rw [e]
    simp only [Bool.or_eq_true, beq_iff_eq, List.contains_iff_mem] at h
    rcases h with h | h <;> simp [h]
  · cases h
  · rename_i e1 e2 e3 e4
    split
    · rename_i e; exact absurd e e1
    · rename_i e; exact absurd e e2
    · rename_i e; exact absurd e e3
    · rename_i e; exact absurd e e4
    · exact List.mem_singleton.mpr (eq_of_beq h)
def zcl (t : List (List (Option Op0))) : Bool := (Pt t 0).isSome && (List.range (16 * t.length)).all fun pc => match Pt t pc with
  | none => true
  | some o => ((zsu o).all fun p => (Pt t p).isSome) && (o.1 != 23 || zok o.2.1)
theorem Pt_lt {t : List (List (Option Op0))} {pc : Nat} {o : Op0} (ho : Pt t pc = some o) : pc < 16 * t.length := by
  by_cases hlt : pc < 16 * t.length
  · exact hlt
  · exfalso
    unfold Pt at ho
    rw [show t[pc / 16]? = none from List.getElem?_eq_none (by omega)] at ho
    simp at ho
theorem zcl_ok {t : List (List (Option Op0))} (h : zcl t = true) {pc : Nat} {o : Op0} (ho : Pt t pc = some o) : (∀ p ∈ zsu o, (Pt t p).isSome = true) ∧ (o.1 = 23 → zok o.2.1 = true) := by
  unfold zcl at h
  simp only [Bool.and_eq_true] at h
  have := List.all_eq_true.mp h.2 pc (List.mem_range.mpr (Pt_lt ho))
  rw [ho] at this
  dsimp only at this
  simp only [Bool.and_eq_true, Bool.or_eq_true, bne_iff_ne] at this
  refine ⟨fun p hp => List.all_eq_true.mp this.1 p hp, fun h23 => ?_⟩
  rcases this.2 with h2 | h2
  · exact absurd h23 h2
  · exact h2
def zAll (ms : List Me) (ts : List (List (List (Option Op0)))) : Prop := ∀ (j : Nat) (me : Me), ms[j]? = some me → ((ts[j]?).getD []).isEmpty = false → Pck me ((ts[j]?).getD []) = true
theorem zAll_nil : zAll [] [] := fun j me h => by simp at h
theorem zAll_cons {m : Me} {ms : List Me} {t : List (List (Option Op0))} {ts : List (List (List (Option Op0)))} (h : t.isEmpty = false → Pck m t = true) (hs : zAll ms ts) : zAll (m :: ms) (t :: ts) := fun j me hj he => by
  cases j with
  | zero =>
    cases hj
    exact h he
  | succ j => exact hs j me (by simpa using hj) (by simpa using he)
set_option maxRecDepth 20000 in
theorem zPT0_ok : zAll mtX0 zPT0 := (zAll_cons (fun _ => PX0_addLarger_ok) (zAll_cons (fun _ => PX0_ofAll_ok) (zAll_cons (fun _ => PX0_split_ok) (zAll_cons (fun _ => PX0_spread_ok) (zAll_cons (fun _ => PX0_stays_ok) zAll_nil)))))
theorem zPT0_cl : (zPT0.all fun t => t.isEmpty || zcl t) = true := by decide +kernel
theorem zNT0_ok : (mtX0).map (fun m => m.2.2.1) = ((zNT[0]?).getD []) := rfl
set_option maxRecDepth 20000 in
theorem zPT1_ok : zAll mtX1 zPT1 := (zAll_cons (fun _ => PX1_clear_ok) (zAll_cons (fun _ => PX1_keep_ok) (zAll_cons (fun _ => PX1_takeBack_ok) zAll_nil)))
theorem zPT1_cl : (zPT1.all fun t => t.isEmpty || zcl t) = true := by decide +kernel
theorem zNT1_ok : (mtX1).map (fun m => m.2.2.1) = ((zNT[1]?).getD []) := rfl
set_option maxRecDepth 20000 in
theorem zPT2_ok : zAll mtX2 zPT2 := (zAll_cons (fun _ => PX2_read_ok) (zAll_cons (fun _ => PX2_readLine_ok) (zAll_cons (fun _ => PX2_takeFlight_ok) zAll_nil)))
theorem zPT2_cl : (zPT2.all fun t => t.isEmpty || zcl t) = true := by decide +kernel
theorem zNT2_ok : (mtX2).map (fun m => m.2.2.1) = ((zNT[2]?).getD []) := rfl
set_option maxRecDepth 20000 in
theorem zPT3_ok : zAll mtX3 zPT3 := (zAll_cons (fun _ => PX3_bestWith_ok) (zAll_cons (fun _ => PX3_choose_ok) (zAll_cons (fun _ => PX3_fillSums_ok) (zAll_cons (fun _ => PX3_hillOf_ok) (zAll_cons (fun _ => PX3_pack_ok) (zAll_cons (fun _ => PX3_pay_ok) (zAll_cons (fun _ => PX3_rise_ok) (zAll_cons (fun _ => PX3_whole_ok) zAll_nil))))))))
theorem zPT3_cl : (zPT3.all fun t => t.isEmpty || zcl t) = true := by decide +kernel
theorem zNT3_ok : (mtX3).map (fun m => m.2.2.1) = ((zNT[3]?).getD []) := rfl
set_option maxRecDepth 20000 in
theorem zPT4_ok : zAll mtX4 zPT4 := (zAll_cons (fun _ => PX4_add_ok) (zAll_cons (fun _ => PX4_beHigh_ok) (zAll_cons (fun _ => PX4_clear_ok) (zAll_cons (fun _ => PX4_factOf_ok) (zAll_cons (fun _ => PX4_isTold_ok) (zAll_cons (fun _ => PX4_joinHere_ok) (zAll_cons (fun _ => PX4_joined_ok) (zAll_cons (fun _ => PX4_readLevel_ok) (zAll_cons (fun _ => PX4_readPart_ok) (zAll_cons (fun _ => PX4_valueOf_ok) zAll_nil))))))))))
theorem zPT4_cl : (zPT4.all fun t => t.isEmpty || zcl t) = true := by decide +kernel
theorem zNT4_ok : (mtX4).map (fun m => m.2.2.1) = ((zNT[4]?).getD []) := rfl
set_option maxRecDepth 20000 in
theorem zPT5_ok : zAll mtX5 zPT5 := (zAll_cons (fun _ => PX5_addSeen_ok) (zAll_cons (fun _ => PX5_clear_ok) (zAll_cons (fun _ => PX5_copy_ok) (zAll_cons (fun _ => PX5_isSo_ok) (zAll_cons (fun _ => PX5_tell_ok) zAll_nil)))))
theorem zPT5_cl : (zPT5.all fun t => t.isEmpty || zcl t) = true := by decide +kernel
theorem zNT5_ok : (mtX5).map (fun m => m.2.2.1) = ((zNT[5]?).getD []) := rfl
set_option maxRecDepth 20000 in
theorem zPT6_ok : zAll mtX6 zPT6 := (zAll_cons (fun _ => PX6_begin_ok) (zAll_cons (fun _ => PX6_builds_ok) (zAll_cons (fun _ => PX6_carries_ok) (zAll_cons (fun _ => PX6_climbs_ok) (zAll_cons (fun _ => PX6_copy_ok) (zAll_cons (fun _ => PX6_does_ok) (zAll_cons (fun _ => PX6_goes_ok) (zAll_cons (fun _ => PX6_isThere_ok) (zAll_cons (fun _ => PX6_lack_ok) (zAll_cons (fun _ => PX6_liftAt_ok) (zAll_cons (fun _ => PX6_open_ok) (zAll_cons (fun _ => PX6_steals_ok) zAll_nil))))))))))))
theorem zPT6_cl : (zPT6.all fun t => t.isEmpty || zcl t) = true := by decide +kernel
theorem zNT6_ok : (mtX6).map (fun m => m.2.2.1) = ((zNT[6]?).getD []) := rfl
set_option maxRecDepth 20000 in
theorem zPT7_ok : zAll mtX7 zPT7 := (zAll_cons (fun _ => PX7_begin_ok) (zAll_cons (fun _ => PX7_cutNumber_ok) (zAll_cons (fun _ => PX7_cutWord_ok) (zAll_cons (fun _ => PX7_fail_ok) (zAll_cons (fun _ => PX7_feedEight_ok) (zAll_cons (fun _ => PX7_hasMore_ok) (zAll_cons (fun _ => PX7_isDigit_ok) (zAll_cons (fun _ => PX7_isLetter_ok) (zAll_cons (fun _ => PX7_isNumber_ok) (zAll_cons (fun _ => PX7_isSign_ok) (zAll_cons (fun _ => PX7_isWord_ok) (zAll_cons (fun _ => PX7_keyHere_ok) (zAll_cons (fun h => by simp at h) (zAll_cons (fun _ => PX7_nameHere_ok) (zAll_cons (fun _ => PX7_next_ok) (zAll_cons (fun _ => PX7_numberHere_ok) (zAll_cons (fun _ => PX7_takeNumber_ok) (zAll_cons (fun _ => PX7_takePlace_ok) (zAll_cons (fun _ => PX7_takeSign_ok) (zAll_cons (fun _ => PX7_takeTold_ok) (zAll_cons (fun _ => PX7_takeWord_ok) (zAll_cons (fun _ => PX7_withLetter_ok) zAll_nil))))))))))))))))))))))
theorem zPT7_cl : (zPT7.all fun t => t.isEmpty || zcl t) = true := by decide +kernel
theorem zNT7_ok : (mtX7).map (fun m => m.2.2.1) = ((zNT[7]?).getD []) := rfl
set_option maxRecDepth 20000 in
theorem zPT8_ok : zAll mtX8 zPT8 := (zAll_cons (fun _ => PX8_addNamed_ok) (zAll_cons (fun _ => PX8_addOne_ok) (zAll_cons (fun _ => PX8_all_ok) (zAll_cons (fun _ => PX8_clear_ok) (zAll_cons (fun _ => PX8_close_ok) (zAll_cons (fun _ => PX8_find_ok) (zAll_cons (fun _ => PX8_findAbove_ok) (zAll_cons (fun _ => PX8_flightFrom_ok) (zAll_cons (fun _ => PX8_floorsOf_ok) (zAll_cons (fun _ => PX8_fromTop_ok) (zAll_cons (fun _ => PX8_has_ok) (zAll_cons (fun _ => PX8_isFull_ok) (zAll_cons (fun _ => PX8_isPlace_ok) (zAll_cons (fun _ => PX8_isTold_ok) (zAll_cons (fun _ => PX8_lowerOf_ok) (zAll_cons (fun _ => PX8_riseOf_ok) (zAll_cons (fun _ => PX8_setFlight_ok) (zAll_cons (fun _ => PX8_setFloors_ok) (zAll_cons (fun _ => PX8_stairs_ok) (zAll_cons (fun _ => PX8_way_ok) (zAll_cons (fun _ => PX8_worth_ok) zAll_nil)))))))))))))))))))))
theorem zPT8_cl : (zPT8.all fun t => t.isEmpty || zcl t) = true := by decide +kernel
theorem zNT8_ok : (mtX8).map (fun m => m.2.2.1) = ((zNT[8]?).getD []) := rfl
set_option maxRecDepth 20000 in
theorem zPT9_ok : zAll mtX9 zPT9 := (zAll_cons (fun _ => PX9_lineEnds_ok) (zAll_cons (fun _ => PX9_read_ok) (zAll_cons (fun _ => PX9_readFlight_ok) (zAll_cons (fun _ => PX9_readHill_ok) (zAll_cons (fun _ => PX9_readHouse_ok) (zAll_cons (fun _ => PX9_readPerson_ok) (zAll_cons (fun _ => PX9_readThing_ok) (zAll_cons (fun _ => PX9_takeFirst_ok) (zAll_cons (fun _ => PX9_takeNewName_ok) (zAll_cons (fun _ => PX9_takeOnce_ok) zAll_nil))))))))))
theorem zPT9_cl : (zPT9.all fun t => t.isEmpty || zcl t) = true := by decide +kernel
theorem zNT9_ok : (mtX9).map (fun m => m.2.2.1) = ((zNT[9]?).getD []) := rfl
set_option maxRecDepth 20000 in
theorem zPT10_ok : zAll mtX10 zPT10 := (zAll_cons (fun _ => PX10_afterRound_ok) (zAll_cons (fun _ => PX10_allSeenByTwo_ok) (zAll_cons (fun _ => PX10_alone_ok) (zAll_cons (fun _ => PX10_best_ok) (zAll_cons (fun _ => PX10_build_ok) (zAll_cons (fun _ => PX10_carry_ok) (zAll_cons (fun _ => PX10_cost_ok) (zAll_cons (fun _ => PX10_count_ok) (zAll_cons (fun _ => PX10_cut_ok) (zAll_cons (fun _ => PX10_cutBy_ok) (zAll_cons (fun _ => PX10_draw_ok) (zAll_cons (fun _ => PX10_feed_ok) (zAll_cons (fun _ => PX10_fillLacks_ok) (zAll_cons (fun _ => PX10_findRest_ok) (zAll_cons (fun _ => PX10_firstGone_ok) (zAll_cons (fun _ => PX10_firstRests_ok) (zAll_cons (fun _ => PX10_fits_ok) (zAll_cons (fun _ => PX10_flight_ok) (zAll_cons (fun _ => PX10_floorsBetween_ok) (zAll_cons (fun _ => PX10_go_ok) (zAll_cons (fun _ => PX10_judged_ok) (zAll_cons (fun _ => PX10_live_ok) (zAll_cons (fun _ => PX10_mark_ok) (zAll_cons (fun _ => PX10_night_ok) (zAll_cons (fun _ => PX10_nights_ok) (zAll_cons (fun _ => PX10_orders_ok) (zAll_cons (fun _ => PX10_passDrawnNight_ok) (zAll_cons (fun _ => PX10_person_ok) (zAll_cons (fun _ => PX10_plan_ok) (zAll_cons (fun _ => PX10_post_ok) (zAll_cons (fun _ => PX10_reach_ok) (zAll_cons (fun h => by simp at h) (zAll_cons (fun _ => PX10_secondRests_ok) (zAll_cons (fun _ => PX10_see_ok) (zAll_cons (fun _ => PX10_seersOf_ok) (zAll_cons (fun _ => PX10_steal_ok) (zAll_cons (fun _ => PX10_thefts_ok) (zAll_cons (fun _ => PX10_thing_ok) (zAll_cons (fun _ => PX10_town_ok) (zAll_cons (fun _ => PX10_undo_ok) (zAll_cons (fun _ => PX10_watch_ok) (zAll_cons (fun _ => PX10_years_ok) zAll_nil))))))))))))))))))))))))))))))))))))))))))
theorem zPT10_cl : (zPT10.all fun t => t.isEmpty || zcl t) = true := by decide +kernel
theorem zNT10_ok : (mtX10).map (fun m => m.2.2.1) = ((zNT[10]?).getD []) := rfl
set_option maxRecDepth 20000 in
theorem zPT11_ok : zAll mtX11 zPT11 := (zAll_cons (fun _ => PX11_above_ok) (zAll_cons (fun _ => PX11_allFlights_ok) (zAll_cons (fun _ => PX11_alone_ok) (zAll_cons (fun _ => PX11_away_ok) (zAll_cons (fun _ => PX11_best_ok) (zAll_cons (fun _ => PX11_between_ok) (zAll_cons (fun _ => PX11_bits_ok) (zAll_cons (fun _ => PX11_build_ok) (zAll_cons (fun _ => PX11_builds_ok) (zAll_cons (fun _ => PX11_canBuild_ok) (zAll_cons (fun _ => PX11_canCarry_ok) (zAll_cons (fun _ => PX11_canGo_ok) (zAll_cons (fun _ => PX11_canServe_ok) (zAll_cons (fun _ => PX11_canSteal_ok) (zAll_cons (fun _ => PX11_carries_ok) (zAll_cons (fun _ => PX11_carry_ok) (zAll_cons (fun _ => PX11_climbs_ok) (zAll_cons (fun _ => PX11_closes_ok) (zAll_cons (fun _ => PX11_copies_ok) (zAll_cons (fun _ => PX11_cost_ok) (zAll_cons (fun _ => PX11_count_ok) (zAll_cons (fun _ => PX11_cut_ok) (zAll_cons (fun _ => PX11_cutBy_ok) (zAll_cons (fun _ => PX11_draws_ok) (zAll_cons (fun _ => PX11_fact_ok) (zAll_cons (fun _ => PX11_fails_ok) (zAll_cons (fun _ => PX11_feed_ok) (zAll_cons (fun _ => PX11_fills_ok) (zAll_cons (fun _ => PX11_fits_ok) (zAll_cons (fun _ => PX11_flight_ok) (zAll_cons (fun _ => PX11_flightOf_ok) (zAll_cons (fun _ => PX11_floorsAway_ok) (zAll_cons (fun _ => PX11_fresh_ok) (zAll_cons (fun _ => PX11_go_ok) (zAll_cons (fun _ => PX11_goes_ok) (zAll_cons (fun _ => PX11_houseNamed_ok) (zAll_cons (fun _ => PX11_isAsSeen_ok) (zAll_cons (fun _ => PX11_isCut_ok) (zAll_cons (fun _ => PX11_isFirst_ok) (zAll_cons (fun _ => PX11_isFlight_ok) (zAll_cons (fun _ => PX11_isFromTop_ok) (zAll_cons (fun _ => PX11_isHill_ok) (zAll_cons (fun _ => PX11_isKept_ok) (zAll_cons (fun _ => PX11_isNew_ok) (zAll_cons (fun _ => PX11_isPerson_ok) (zAll_cons (fun _ => PX11_isPlace_ok) (zAll_cons (fun _ => PX11_isRest_ok) (zAll_cons (fun _ => PX11_isSign_ok) (zAll_cons (fun _ => PX11_isThing_ok) (zAll_cons (fun _ => PX11_isTwice_ok) (zAll_cons (fun _ => PX11_isWatched_ok) (zAll_cons (fun _ => PX11_isWord_ok) (zAll_cons (fun _ => PX11_judged_ok) (zAll_cons (fun _ => PX11_keeps_ok) (zAll_cons (fun _ => PX11_lays_ok) (zAll_cons (fun _ => PX11_laysLines_ok) (zAll_cons (fun _ => PX11_laysOdds_ok) (zAll_cons (fun _ => PX11_laysSeen_ok) (zAll_cons (fun _ => PX11_laysServed_ok) (zAll_cons (fun _ => PX11_lessens_ok) (zAll_cons (fun _ => PX11_live_ok) (zAll_cons (fun _ => PX11_liveOf_ok) (zAll_cons (fun _ => PX11_livesNight_ok) (zAll_cons (fun _ => PX11_lowerOf_ok) (zAll_cons (fun _ => PX11_mark_ok) (zAll_cons (fun _ => PX11_moves_ok) (zAll_cons (fun _ => PX11_movesNames_ok) (zAll_cons (fun _ => PX11_named_ok) (zAll_cons (fun _ => PX11_needsBoth_ok) (zAll_cons (fun _ => PX11_needsFlight_ok) (zAll_cons (fun _ => PX11_needsNumber_ok) (zAll_cons (fun _ => PX11_needsPlace_ok) (zAll_cons (fun _ => PX11_needsTold_ok) (zAll_cons (fun _ => PX11_needsWord_ok) (zAll_cons (fun _ => PX11_nextToken_ok) (zAll_cons (fun _ => PX11_night_ok) (zAll_cons (fun _ => PX11_nights_ok) (zAll_cons (fun _ => PX11_opens_ok) (zAll_cons (fun _ => PX11_orders_ok) (zAll_cons (fun _ => PX11_payOf_ok) (zAll_cons (fun _ => PX11_person_ok) (zAll_cons (fun _ => PX11_personNamed_ok) (zAll_cons (fun _ => PX11_plan_ok) (zAll_cons (fun _ => PX11_post_ok) (zAll_cons (fun _ => PX11_priceOf_ok) (zAll_cons (fun _ => PX11_puts_ok) (zAll_cons (fun _ => PX11_reach_ok) (zAll_cons (fun _ => PX11_reachOf_ok) (zAll_cons (fun _ => PX11_reads_ok) (zAll_cons (fun _ => PX11_readsAll_ok) (zAll_cons (fun _ => PX11_readsFlight_ok) (zAll_cons (fun _ => PX11_readsHill_ok) (zAll_cons (fun _ => PX11_readsHouse_ok) (zAll_cons (fun _ => PX11_readsLine_ok) (zAll_cons (fun _ => PX11_readsOne_ok) (zAll_cons (fun _ => PX11_readsPerson_ok) (zAll_cons (fun _ => PX11_readsPrice_ok) (zAll_cons (fun _ => PX11_readsThing_ok) (zAll_cons (fun _ => PX11_rests_ok) (zAll_cons (fun _ => PX11_riseOf_ok) (zAll_cons (fun _ => PX11_see_ok) (zAll_cons (fun _ => PX11_seeks_ok) (zAll_cons (fun _ => PX11_signAt_ok) (zAll_cons (fun _ => PX11_spreads_ok) (zAll_cons (fun _ => PX11_starts_ok) (zAll_cons (fun _ => PX11_steal_ok) (zAll_cons (fun _ => PX11_steals_ok) (zAll_cons (fun _ => PX11_streets_ok) (zAll_cons (fun _ => PX11_sums_ok) (zAll_cons (fun _ => PX11_tests_ok) (zAll_cons (fun _ => PX11_thefts_ok) (zAll_cons (fun _ => PX11_thing_ok) (zAll_cons (fun _ => PX11_thingNamed_ok) (zAll_cons (fun _ => PX11_town_ok) (zAll_cons (fun _ => PX11_undo_ok) (zAll_cons (fun _ => PX11_watch_ok) (zAll_cons (fun _ => PX11_watches_ok) (zAll_cons (fun _ => PX11_within_ok) (zAll_cons (fun _ => PX11_worked_ok) (zAll_cons (fun _ => PX11_worthTo_ok) (zAll_cons (fun _ => PX11_years_ok) zAll_nil)))))))))))))))))))))))))))))))))))))))))))))))))))))))))))))))))))))))))))))))))))))))))))))))))))))))))))))))))))))))))
theorem zPT11_cl : (zPT11.all fun t => t.isEmpty || zcl t) = true := by decide +kernel
theorem zNT11_ok : (mtX11).map (fun m => m.2.2.1) = ((zNT[11]?).getD []) := rfl
set_option maxRecDepth 20000 in
theorem zPT12_ok : zAll mtJ6 zPT12 := (zAll_cons (fun _ => PJ6_bitCount_0f7a4_ok) zAll_nil)
theorem zPT12_cl : (zPT12.all fun t => t.isEmpty || zcl t) = true := by decide +kernel
theorem zNT12_ok : (mtJ6).map (fun m => m.2.2.1) = ((zNT[12]?).getD []) := rfl
set_option maxRecDepth 20000 in
theorem zPT13_ok : zAll mtJ7 zPT13 := (zAll_cons (fun _ => PJ7_fill_53178_ok) (zAll_cons (fun _ => PJ7_fill_d0a16_ok) zAll_nil))
theorem zPT13_cl : (zPT13.all fun t => t.isEmpty || zcl t) = true := by decide +kernel
theorem zNT13_ok : (mtJ7).map (fun m => m.2.2.1) = ((zNT[13]?).getD []) := rfl
theorem zt_of {ms : List Me} {ts : List (List (List (Option Op0)))} {nl : List Nat} {own : String} {L : Lk} {b : Nat} {me : Me} (h1 : zAll ms ts) (h2 : (ts.all fun t => t.isEmpty || zcl t) = true) (h3 : ms.map (fun m => m.2.2.1) = nl) (h4 : ∀ e ∈ ms, pm_eOK own L e) (hm : ms[b]? = some me) (hk : ((ts[b]?).getD []).isEmpty = false) : Pck me ((ts[b]?).getD []) = true ∧ zcl ((ts[b]?).getD []) = true ∧ (nl[b]?).getD 0 = me.2.2.1 ∧ me.2.2.2.2.1 = L ∧ me.1.cls = own := by
  obtain ⟨o1, -, -, -, o5⟩ := h4 me (List.mem_of_getElem? hm)
  refine ⟨h1 b me hm hk, ?_, ?_, o5, o1⟩
  · cases ht : ts[b]? with
    | none => rw [ht] at hk; cases hk
    | some t =>
      rw [ht] at hk
      have hk : t.isEmpty = false := hk
      have := List.all_eq_true.mp h2 t (List.mem_of_getElem? ht)
      rw [hk] at this
      simpa using this
  · rw [← h3, List.getElem?_map, hm]
    rfl
theorem zt_ok {k : Nat} {me : Me} (hm : mtb k = some me) (hk : zok k = true) : Pck me (zPl k) = true ∧ zcl (zPl k) = true ∧ zNL k = me.2.2.1 ∧ me.2.2.2.2.1 = zlk (k / 128) ∧ me.1.cls = zCn (k / 128) ∧ k / 128 < 14 := by
  unfold mtb at hm
  unfold zok at hk
  unfold zNL
  have hz : zPl k = ((zPT[k / 128]?).getD [])[k % 128]?.getD [] := rfl
  rw [hz] at hk ⊢
  have hk : (((zPT[k / 128]?).getD [])[k % 128]?.getD []).isEmpty = false := by simpa using hk
  generalize k / 128 = a at hm hk ⊢
  generalize k % 128 = b at hm hk ⊢
  unfold mtA at hm
  split at hm
  · obtain ⟨r1, r2, r3, r4, r5⟩ := zt_of zPT0_ok zPT0_cl zNT0_ok mtX0_ok hm hk
    exact ⟨r1, r2, r3, r4, r5, by decide⟩
  · obtain ⟨r1, r2, r3, r4, r5⟩ := zt_of zPT1_ok zPT1_cl zNT1_ok mtX1_ok hm hk
    exact ⟨r1, r2, r3, r4, r5, by decide⟩
  · obtain ⟨r1, r2, r3, r4, r5⟩ := zt_of zPT2_ok zPT2_cl zNT2_ok mtX2_ok hm hk
    exact ⟨r1, r2, r3, r4, r5, by decide⟩
  · obtain ⟨r1, r2, r3, r4, r5⟩ := zt_of zPT3_ok zPT3_cl zNT3_ok mtX3_ok hm hk
    exact ⟨r1, r2, r3, r4, r5, by decide⟩
  · obtain ⟨r1, r2, r3, r4, r5⟩ := zt_of zPT4_ok zPT4_cl zNT4_ok mtX4_ok hm hk
    exact ⟨r1, r2, r3, r4, r5, by decide⟩
  · obtain ⟨r1, r2, r3, r4, r5⟩ := zt_of zPT5_ok zPT5_cl zNT5_ok mtX5_ok hm hk
    exact ⟨r1, r2, r3, r4, r5, by decide⟩
  · obtain ⟨r1, r2, r3, r4, r5⟩ := zt_of zPT6_ok zPT6_cl zNT6_ok mtX6_ok hm hk
    exact ⟨r1, r2, r3, r4, r5, by decide⟩
  · obtain ⟨r1, r2, r3, r4, r5⟩ := zt_of zPT7_ok zPT7_cl zNT7_ok mtX7_ok hm hk
    exact ⟨r1, r2, r3, r4, r5, by decide⟩
  · obtain ⟨r1, r2, r3, r4, r5⟩ := zt_of zPT8_ok zPT8_cl zNT8_ok mtX8_ok hm hk
    exact ⟨r1, r2, r3, r4, r5, by decide⟩
  · obtain ⟨r1, r2, r3, r4, r5⟩ := zt_of zPT9_ok zPT9_cl zNT9_ok mtX9_ok hm hk
    exact ⟨r1, r2, r3, r4, r5, by decide⟩
  · obtain ⟨r1, r2, r3, r4, r5⟩ := zt_of zPT10_ok zPT10_cl zNT10_ok mtX10_ok hm hk
    exact ⟨r1, r2, r3, r4, r5, by decide⟩
  · obtain ⟨r1, r2, r3, r4, r5⟩ := zt_of zPT11_ok zPT11_cl zNT11_ok mtX11_ok hm hk
    exact ⟨r1, r2, r3, r4, r5, by decide⟩
  · obtain ⟨r1, r2, r3, r4, r5⟩ := zt_of zPT12_ok zPT12_cl zNT12_ok mtJ6_ok hm hk
    exact ⟨r1, r2, r3, r4, r5, by decide⟩
  · obtain ⟨r1, r2, r3, r4, r5⟩ := zt_of zPT13_ok zPT13_cl zNT13_ok mtJ7_ok hm hk
    exact ⟨r1, r2, r3, r4, r5, by decide⟩
  · cases hm
section Zx
variable {nL d k : Nat} {me : Me} {a b : Cf} {Lz : List Int} {o : Op0}
/-- a step, with the calls that it needs -/
def zSn (k : Nat) (o : Op0) (nL : Nat) (a b : Cf) (Lz : List Int) : Prop := ∃ Lz', rl nL b.2.1 Lz' ∧ Kp b.2.2.2 ∧ zsc o b.1 = true ∧ ∃ n0, ∀ n, n0 ≤ n → ∀ go, znx (zE k) (fun k' as s => zgo n (zE k') (zP k') (0, zlo (zNL k') as, [], s)) o (Lz, a.2.2.1.map zvl, zH a.2.2.2) go = go b.1 (Lz', b.2.2.1.map zvl, zH b.2.2.2)
theorem zSn_of (h : zSt nL o a b Lz) : zSn k o nL a b Lz := by
  obtain ⟨Lz', h1, h2, h3, h4⟩ := h
  exact ⟨Lz', h1, h2, h3, 0, fun n _ go => h4 _ _ go⟩
theorem zSn_of' {nx : Nat} {st' : List Value} (hl : rl nL a.2.1 Lz) (hk : Kp a.2.2.2) (he : b = (nx, a.2.1, st', a.2.2.2)) (hs : zsc o nx = true) (hz : ∀ (n : Nat) (go : Nat → Zm → Option Zr), znx (zE k) (fun k' as s => zgo n (zE k') (zP k') (0, zlo (zNL k') as, [], s)) o (Lz, a.2.2.1.map zvl, zH a.2.2.2) go = go nx (Lz, st'.map zvl, zH a.2.2.2)) : zSn k o nL a b Lz := by
  subst he
  exact ⟨Lz, hl, hk, hs, 0, fun n _ go => hz n go⟩
theorem rop_x {L : Lk} {pc idx v : Nat} {ins : Instr} (hv : (v = 0 ∧ ins = .invokestatic idx) ∨ (v = 1 ∧ ins = .invokevirtual idx)) (hr : rop L nL pc ins 3 = some o) (hn : L.2.2.2 idx = none) : o = (24, idx, v, 0, pc + 3, []) := by
  rcases hv with ⟨rfl, rfl⟩ | ⟨rfl, rfl⟩
  · unfold rop at hr
    dsimp only at hr
    rw [hn] at hr
    exact (gd1_ok hr).2
  · unfold rop at hr
    dsimp only at hr
    rw [hn] at hr
    exact (gd1_ok hr).2
theorem zEk (k : Nat) : zE k = zE (128 * (k / 128)) := by
  unfold zE
  rw [show 128 * (k / 128) / 128 = k / 128 from by omega]
theorem zs_x (hc : me.1.cls = zCn (k / 128)) (hLk : me.2.2.2.2.1 = zlk (k / 128)) (h14 : k / 128 < 14) (hl : rl nL a.2.1 Lz) (hk : Kp a.2.2.2) {ins : Instr} {len : Nat} (hd : decode me.2.1 a.1 = .ok (ins, len)) (hr : rop me.2.2.2.2.1 nL a.1 ins len = some o) (h : xsT 229 d me a b) : zSn k o nL a b Lz := by
  have key : ∀ (idx q v : Nat) (y : MethodName) (ins' : Instr), (v = 0 ∧ ins' = .invokestatic idx) ∨ (v = 1 ∧ ins' = .invokevirtual idx) → decode me.2.1 a.1 = .ok (ins', 3) → Cond.methodLink me.1.cls idx y ∈ gw → zkO y = some q → o = (24, idx, v, 0, a.1 + 3, []) ∧ zE k idx = some q := by
    intro idx q v y ins' hv hd' hw hy
    rw [hd] at hd'
    cases hd'
    rw [hc] at hw
    obtain ⟨k1, k2⟩ := zx_link h14 hw hy
    rw [hLk] at hr
    refine ⟨rop_x hv hr k2, ?_⟩
    rw [zEk]
    exact k1
  rcases h with ⟨idx, x, y, st, e1, e2, e3, -, e5⟩ | ⟨idx, x, y, st, e1, e2, e3, -, e5⟩ | ⟨idx, x, st, e1, e2, e3, -, e5⟩ | ⟨idx, x, y, st, e1, e2, e3, -, e5⟩ | ⟨-, idx, x, st, e1, e2, e3, -, e5⟩ | ⟨idx, s, dd, kk, N1, N2, f, g, st, e1, e2, e3, -, w1, w2, w3, w4, w5, w6, w7, w8, e5⟩
  · obtain ⟨rfl, e⟩ := key idx 0 0 _ _ (Or.inl ⟨rfl, rfl⟩) e1 e2 (by decide +kernel)
    refine zSn_of' hl hk e5 (bq _) (fun n go => ?_)
    rw [e3]
    dsimp only [znx]
    rw [e]
    show go _ (Lz, (if x.toInt < y.toInt then y.toInt else x.toInt, 0) :: _, _) = go _ (Lz, ((if x < y then y else x).toInt, 0) :: _, _)
    by_cases hxy : x < y
    · rw [if_pos hxy, if_pos (Int32.lt_iff_toInt_lt.mp hxy)]
    · rw [if_neg hxy, if_neg (fun q => hxy (Int32.lt_iff_toInt_lt.mpr q))]
  · obtain ⟨rfl, e⟩ := key idx 1 0 _ _ (Or.inl ⟨rfl, rfl⟩) e1 e2 (by decide +kernel)
    refine zSn_of' hl hk e5 (bq _) (fun n go => ?_)
    rw [e3]
    dsimp only [znx]
    rw [e]
    show go _ (Lz, (if y.toInt < x.toInt then y.toInt else x.toInt, 0) :: _, _) = go _ (Lz, ((if y < x then y else x).toInt, 0) :: _, _)
    by_cases hxy : y < x
    · rw [if_pos hxy, if_pos (Int32.lt_iff_toInt_lt.mp hxy)]
    · rw [if_neg hxy, if_neg (fun q => hxy (Int32.lt_iff_toInt_lt.mpr q))]
  · obtain ⟨rfl, e⟩ := key idx 2 0 _ _ (Or.inl ⟨rfl, rfl⟩) e1 e2 (by decide +kernel)
    refine zSn_of' hl hk e5 (bq _) (fun n go => ?_)
    rw [e3]
    dsimp only [znx]
    rw [e]
    show go _ (Lz, (if 0 ≤ x.toInt then x.toInt else w32 (0 - x.toInt), 0) :: _, _) = go _ (Lz, ((if 0 ≤ x then x else 0 - x).toInt, 0) :: _, _)
    by_cases hxy : 0 ≤ x
    · rw [if_pos hxy, if_pos (show (0 : Int) ≤ x.toInt from Int32.le_iff_toInt_le.mp hxy)]
    · rw [if_neg hxy, if_neg (fun q : (0 : Int) ≤ x.toInt => hxy (Int32.le_iff_toInt_le.mpr q)), Int32.toInt_sub]
      rfl
  · obtain ⟨rfl, e⟩ := key idx 3 0 _ _ (Or.inl ⟨rfl, rfl⟩) e1 e2 (by decide +kernel)
    refine zSn_of' hl hk e5 (bq _) (fun n go => ?_)
    rw [e3]
    dsimp only [znx]
    rw [e]
    show go _ (Lz, (if y.toInt < x.toInt then x.toInt else y.toInt, 1) :: _, _) = go _ (Lz, ((if y < x then x else y).toInt, 1) :: _, _)
    by_cases hxy : y < x
    · rw [if_pos hxy, if_pos (Int64.lt_iff_toInt_lt.mp hxy)]
    · rw [if_neg hxy, if_neg (fun q => hxy (Int64.lt_iff_toInt_lt.mpr q))]
  · obtain ⟨rfl, e⟩ := key idx 4 1 _ _ (Or.inr ⟨rfl, rfl⟩) e1 e2 (by decide +kernel)
    refine zSn_of' hl hk e5 (bq _) (fun n go => ?_)
    rw [e3]
    dsimp only [znx]
    rw [e]
    show go _ (Lz, (zsgn x.toInt, 0) :: _, _) = go _ (Lz, ((sgIx x).toInt, 0) :: _, _)
    rw [show zsgn x.toInt = (sgIx x).toInt from ?_]
    unfold zsgn sgIx
    have t : ∀ (c : Int32) (z : Int), c.toInt = z → (x.toInt = z ↔ x = c) := fun c z hcz => by rw [← hcz]; exact Int32.toInt_inj
    simp only [t 40 40 (by decide), t 41 41 (by decide), t 60 60 (by decide), t 61 61 (by decide), t 43 43 (by decide), t 45 45 (by decide), t 42 42 (by decide), t 59 59 (by decide)]
    split
    · rfl
    split
    · rfl
    split
    · rfl
    split
    · rfl
    split
    · rfl
    split
    · rfl
    split
    · rfl
    split <;> rfl
  · obtain ⟨rfl, e⟩ := key idx 5 0 _ _ (Or.inl ⟨rfl, rfl⟩) e1 e2 (by decide +kernel)
    subst e5
    refine ⟨Lz, hl, Kp_u hk ?_, bq _, 0, fun n _ go => ?_⟩
    · have kk := hk dd w2
      rw [w5] at kk
      unfold kpc at kk ⊢
      split at kk
      · obtain ⟨f, k1, -⟩ := kk; cases k1
      · obtain ⟨f, k1⟩ := kk; cases k1; exact ⟨_, rfl⟩
      · obtain ⟨f, k1⟩ := kk; cases k1
      · obtain ⟨f, k1, -⟩ := kk; cases k1
      · exact kk.elim
    · rw [e3]
      dsimp only [znx]
      rw [e]
      show go _ (Lz, _, zcpy (zH a.2.2.2) s dd (Int32.ofNat kk).toInt.toNat) = _
      rw [show (Int32.ofNat kk).toInt.toNat = kk from by rw [Int32.toInt_ofNat_of_lt (by omega)]; exact Int.toNat_natCast kk, ← zH_cpy w2 w1 w4 w5 w6 w7]
theorem rop_c {L : Lk} {pc idx v k' np : Nat} {ins : Instr} {len : Nat} (hv : (v = 0 ∧ ins = .invokestatic idx) ∨ (v = 1 ∧ ins = .invokevirtual idx)) (hr : rop L nL pc ins len = some o) (hn : L.2.2.2 idx = some (k', np)) : o = (23, k', np, (v : Int), pc + 3, [idx]) := by
  rcases hv with ⟨rfl, rfl⟩ | ⟨rfl, rfl⟩
  · unfold rop at hr
    dsimp only at hr
    rw [hn] at hr
    exact (gd1_ok hr).2
  · unfold rop at hr
    dsimp only at hr
    rw [hn] at hr
    exact (gd1_ok hr).2
theorem zs_c (IH : ∀ (k' : Nat) (av : List Value) (h : Ph) (r : Option Value) (h' : Ph), pm_Ex mtb (xsT 229) 229 d k' av h r h' → zok k' = true → Kp h → Kp h' ∧ ∃ n, zgo n (zE k') (zP k') (0, zlo (zNL k') (av.map zvl), [], zH h) = some (r.toList.map zvl, zH h'))
    (hcl : o.1 = 23 → zok o.2.1 = true) (hl : rl nL a.2.1 Lz) (hk : Kp a.2.2.2) {ins : Instr} {len : Nat} (hd : decode me.2.1 a.1 = .ok (ins, len)) (hr : rop me.2.2.2.2.1 nL a.1 ins len = some o) (h : pm_Call mtb (pm_Ex mtb (xsT 229) 229 d) me 229 a b) : zSn k o nL a b Lz := by
  obtain ⟨idx, k', np, me', av, st, r, h', e1, e2, e3, -, e5, e6, e7⟩ := h
  have key : ∃ v : Nat, o = (23, k', np, (v : Int), a.1 + 3, [idx]) ∧ av.length = np + v := by
    rcases e7 with ⟨-, e8, e9⟩ | ⟨-, e8, b0, ci, As, fs, q, e9, e10, -⟩
    · rw [hd] at e8
      cases e8
      exact ⟨0, rop_c (Or.inl ⟨rfl, rfl⟩) hr e1, e9⟩
    · rw [hd] at e8
      cases e8
      exact ⟨1, rop_c (Or.inr ⟨rfl, rfl⟩) hr e1, by rw [e9, List.length_cons, e10]⟩
  obtain ⟨v, rfl, hv⟩ := key
  obtain ⟨K, n0, hn⟩ := IH k' av _ r h' e5 (hcl rfl) hk
  subst e6
  refine ⟨Lz, hl, K, bq _, n0, fun n h0 go => ?_⟩
  have hn := zgo_le hn h0
  rw [e3]
  dsimp only [znx]
  have hlen : (av.reverse.map zvl).length = np + v := by simp [hv]
  rw [Int.toNat_natCast, List.map_append, List.take_left' hlen, List.drop_left' hlen, List.map_reverse, List.reverse_reverse, hn]
  show go (a.1 + 3) (Lz, r.toList.map zvl ++ st.map zvl, zH h') = _
  rw [List.map_append]
theorem zs_e {ret : Option FieldType} {r : Option Value} {h' : Ph} {ins : Instr} {len : Nat} (hd : decode me.2.1 a.1 = .ok (ins, len)) (hr : rop me.2.2.2.2.1 nL a.1 ins len = some o) (h : pm_res ret me.2.1 a = some (r, h')) : o.1 = 22 ∧ (if o.2.2.1 = 2 then [] else (a.2.2.1.map zvl).take 1) = r.toList.map zvl ∧ a.2.2.2 = h' := by
  unfold pm_res at h
  rw [hd] at h
  split at h
  · rename_i e1 e2
    cases e1
    split at h
    · cases h
      have q := (gd1_ok (show gd1 _ 1 (22, 0, 0, 0, 0, []) = some o from hr)).2
      rw [q]
      exact ⟨rfl, by rw [e2]; rfl, rfl⟩
    · cases h
  · rename_i e1 e2
    cases e1
    split at h
    · cases h
      have q := (gd1_ok (show gd1 _ 1 (22, 0, 1, 0, 0, []) = some o from hr)).2
      rw [q]
      exact ⟨rfl, by rw [e2]; rfl, rfl⟩
    · cases h
  · rename_i e1 e2
    cases e1
    split at h
    · cases h
      have q := (gd1_ok (show gd1 _ 1 (22, 0, 2, 0, 0, []) = some o from hr)).2
      rw [q]
      exact ⟨rfl, by rw [e2]; rfl, rfl⟩
    · cases h
  · cases h
end Zx
theorem zit_ok {d k : Nat} {me : Me} {cf : Cf} {r : Option Value} {h' : Ph} (hm : mtb k = some me) (hz : zok k = true)
    (IH : ∀ (k' : Nat) (av : List Value) (h : Ph) (r : Option Value) (h' : Ph), pm_Ex mtb (xsT 229) 229 d k' av h r h' → zok k' = true → Kp h → Kp h' ∧ ∃ n, zgo n (zE k') (zP k') (0, zlo (zNL k') (av.map zvl), [], zH h) = some (r.toList.map zvl, zH h'))
    (hres : pm_res me.2.2.2.1 me.2.1 cf = some (r, h')) : ∀ (N : Nat) (a : Cf) (Lz : List Int), pm_It (pm_Stp mtb (xsT 229) d (pm_Ex mtb (xsT 229) 229 d) me 229) N a cf → rl me.2.2.1 a.2.1 Lz → Kp a.2.2.2 → (Pt (zPl k) a.1).isSome = true → Kp h' ∧ ∃ n, zgo n (zE k) (zP k) (a.1, Lz, a.2.2.1.map zvl, zH a.2.2.2) = some (r.toList.map zvl, zH h') := by
  obtain ⟨t1, t2, t3, t4, t5, t6⟩ := zt_ok hm hz
  intro N
  induction N with
  | zero =>
    intro a Lz hit hl hk hp
    have hit : a = cf := hit
    subst hit
    obtain ⟨o, ho⟩ := Option.isSome_iff_exists.mp hp
    obtain ⟨ins, len, hd, hr⟩ := Pck_ok t1 a.1 o ho
    obtain ⟨h1, h2, h3⟩ := zs_e hd hr hres
    subst h3
    refine ⟨hk, 1, ?_⟩
    unfold zgo
    dsimp only
    rw [show zP k a.1 = some o from ho]
    dsimp only
    obtain ⟨o1, o2⟩ := o
    have h1 : o1 = 22 := h1
    subst h1
    show some (if o2.2.1 = 2 then [] else (a.2.2.1.map zvl).take 1, zH a.2.2.2) = _
    have h2 : (if o2.2.1 = 2 then [] else (a.2.2.1.map zvl).take 1) = r.toList.map zvl := h2
    rw [h2]
  | succ N ih =>
    intro a Lz hit hl hk hp
    obtain ⟨c, hs, hit⟩ := hit
    obtain ⟨o, ho⟩ := Option.isSome_iff_exists.mp hp
    obtain ⟨ins, len, hd, hr⟩ := Pck_ok t1 a.1 o ho
    obtain ⟨c1, c2⟩ := zcl_ok t2 ho
    have hsn : zSn k o me.2.2.1 a c Lz := by
      rcases hs with hs | hs | hs
      · unfold pm_sem at hs
        rw [hd] at hs
        exact zSn_of (zst_ok (by rw [t4]; exact zlk_ok _ t6) hl hk hr hs)
      · exact zs_x t5 t4 t6 hl hk hd hr hs
      · exact zs_c IH c2 hl hk hd hr hs
    obtain ⟨Lz', q1, q2, q3, n0, q4⟩ := hsn
    obtain ⟨K, n1, hn⟩ := ih c Lz' hit q1 q2 (c1 _ (zsc_su q3))
    refine ⟨K, n0 + n1 + 1, ?_⟩
    unfold zgo
    dsimp only
    rw [show zP k a.1 = some o from ho]
    dsimp only
    rw [q4 (n0 + n1) (by omega)]
    exact zgo_le hn (by omega)
theorem zrun_ok : ∀ (d k : Nat) (av : List Value) (h : Ph) (r : Option Value) (h' : Ph), pm_Ex mtb (xsT 229) 229 d k av h r h' → zok k = true → Kp h → Kp h' ∧ ∃ n, zgo n (zE k) (zP k) (0, zlo (zNL k) (av.map zvl), [], zH h) = some (r.toList.map zvl, zH h')
  | 0, _, _, _, _, _, h, _, _ => h.elim
  | d + 1, k, av, h, r, h', hex, hz, hk => by
    obtain ⟨me, hm, hsl, N, cf, hit, hres⟩ := hex
    obtain ⟨t1, t2, t3, t4, t5, t6⟩ := zt_ok hm hz
    have z := zlo_ok av 0 me.2.2.1 hsl
    rw [t3]
    refine zit_ok hm hz (fun k' av h r h' he hz hk => zrun_ok d k' av h r h' he hz hk) hres N (0, lv_args 0 av, [], h) (zlo me.2.2.1 (av.map zvl)) hit ⟨z.1, fun q hq => (z.2 q hq).2⟩ hk ?_
    unfold zcl at t2
    simp only [Bool.and_eq_true] at t2
    exact t2.1
/-- what is shown of the machine of whole numbers holds of a run -/
theorem zC_run {d k : Nat} {av : List Value} {h h' : Ph} {r : Option Value} {Q : Zr → Prop} (he : pm_Ex mtb (xsT 229) 229 d k av h r h') (hz : zok k = true) (hk : Kp h) (hQ : ∀ n, zC n k (av.map zvl) (zH h) Q) : Kp h' ∧ Q (r.toList.map zvl, zH h') := by
  obtain ⟨K, n, hn⟩ := zrun_ok d k av h r h' he hz hk
  exact ⟨K, hQ n n _ (Nat.le_refl n) hn⟩
theorem Kp_Z : Kp hZ := fun c hc => by
  have b := zcB_c hc
  unfold zcB at b
  generalize hZ c = x at b ⊢
  unfold kpc
  split
  · exact ⟨_, rfl, rfl, fun j => ⟨rfl, fun _ => rfl⟩⟩
  · exact ⟨_, rfl⟩
  · exact ⟨_, rfl⟩
  · exact ⟨_, rfl, fun _ _ => rfl⟩
  · rename_i h1 h2 h3 h4
    split at b
    · exact h1 _ _ rfl
    · exact h2 _ _ _ rfl
    · exact h3 _ _ _ rfl
    · exact h4 _ _ _ rfl
    · cases b
theorem Kp_W (fk : Nat → Int64) (f1 e1 f2 e2 : Nat → Int32) : Kp (hW fk f1 e1 f2 e2) := Kp_u (Kp_u (Kp_u (Kp_u (Kp_u Kp_Z ⟨_, rfl⟩) ⟨_, rfl⟩) ⟨_, rfl⟩) ⟨_, rfl⟩) ⟨_, rfl⟩
