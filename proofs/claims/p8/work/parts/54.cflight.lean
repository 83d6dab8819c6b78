/-! a flight told: the class -/
theorem fxl_bd {h f : Int} : ∀ as bs : List Int, -1 ≤ fxI.fxl h f as bs ∧ fxI.fxl h f as bs < as.length
  | [], bs => by unfold fxI.fxl; simp
  | a :: as, [] => by unfold fxI.fxl; simp; omega
  | a :: as, b :: bs => by
    have := fxl_bd (h := h) (f := f) as bs
    unfold fxI.fxl
    rw [List.length_cons]
    split
    · omega
    · split <;> omega
theorem fxl_app {h f a b : Int} : ∀ as bs : List Int, as.length = bs.length → fxI.fxl h f (as ++ [a]) (bs ++ [b]) = if fxI.fxl h f as bs = -1 then (if a = h ∧ b = f then (as.length : Int) else -1) else fxI.fxl h f as bs
  | [], [], _ => by
    show (if a = h ∧ b = f then (0 : Int) else if fxI.fxl h f [] [] = -1 then -1 else _) = _
    have e : fxI.fxl h f [] [] = -1 := rfl
    rw [e, if_pos rfl, if_pos rfl]
    rfl
  | [], b' :: bs, hl => by simp at hl
  | a' :: as, [], hl => by simp at hl
  | a' :: as, b' :: bs, hl => by
    have ih := fxl_app (h := h) (f := f) (a := a) (b := b) as bs (by simpa using hl)
    have hb := fxl_bd (h := h) (f := f) as bs
    show (if a' = h ∧ b' = f then (0 : Int) else if fxI.fxl h f (as ++ [a]) (bs ++ [b]) = -1 then -1 else fxI.fxl h f (as ++ [a]) (bs ++ [b]) + 1) = if (if a' = h ∧ b' = f then (0 : Int) else if fxI.fxl h f as bs = -1 then -1 else fxI.fxl h f as bs + 1) = -1 then (if a = h ∧ b = f then ((a' :: as).length : Int) else -1) else (if a' = h ∧ b' = f then (0 : Int) else if fxI.fxl h f as bs = -1 then -1 else fxI.fxl h f as bs + 1)
    rw [ih, List.length_cons]
    by_cases c : a' = h ∧ b' = f
    · rw [if_pos c, if_pos c, if_neg (by decide)]
    · rw [if_neg c, if_neg c]
      by_cases c2 : fxI.fxl h f as bs = -1
      · rw [if_pos c2, if_pos c2, if_pos rfl]
        by_cases c3 : a = h ∧ b = f
        · rw [if_pos c3, if_pos c3, if_neg (by omega)]
          omega
        · rw [if_neg c3, if_neg c3, if_pos rfl]
      · rw [if_neg c2, if_neg c2, if_neg (by omega)]
theorem fxl_no {h f : Int} : ∀ (as bs : List Int), (∀ (i : Nat) (a b : Int), as[i]? = some a → bs[i]? = some b → ¬ (a = h ∧ b = f)) → fxI.fxl h f as bs = -1
  | [], bs, _ => by unfold fxI.fxl; rfl
  | a :: as, [], _ => by unfold fxI.fxl; rfl
  | a :: as, b :: bs, hn => by
    have ih := fxl_no as bs (fun i a' b' ha hb => hn (i + 1) a' b' (by simpa using ha) (by simpa using hb))
    unfold fxI.fxl
    rw [if_neg (hn 0 a b rfl rfl), ih, if_pos rfl]
theorem fx_hi {D : ZD} (hD : wD D) {h f : Int} (hf : 5 ≤ f) : fxI D h f = -1 := fxl_no _ _ (fun i a b _ hb e => by
  have := hD.2.2.2.2.2.2.2 b (List.mem_of_getElem? hb)
  omega)
theorem fx_neg {D : ZD} (hD : wD D) {h f : Int} (hh : h < 0) : fxI D h f = -1 := fxl_no _ _ (fun i a b ha _ e => by
  have := hD.2.2.2.2.2.2.1 a (List.mem_of_getElem? ha)
  omega)
theorem cnt_fl {D : ZD} {j : Nat} {h f r o : Int} : cnt (addR D 1 [h, f, r, o]) j = if j = 1 then cnt D 1 + 1 else cnt D j := by
  unfold cnt
  by_cases e1 : j = 1
  · rw [if_pos e1, if_pos e1, if_pos rfl, dC_addR, if_pos (by decide)]
    show (dC D 10 ++ [h]).length = _
    rw [List.length_append]
    rfl
  · rw [if_neg e1, if_neg e1, if_neg e1]
    rfl
theorem dC_fl {D : ZD} {c : Nat} {h f r o : Int} : dC (addR D 1 [h, f, r, o]) c = if c = 10 then dC D c ++ [h] else if c = 11 then dC D c ++ [f] else if c = 12 then dC D c ++ [r] else if c = 13 then dC D c ++ [o] else dC D c := by
  rw [dC_addR]
  by_cases c0 : c = 10
  · subst c0; rfl
  by_cases c1 : c = 11
  · subst c1; rfl
  by_cases c2 : c = 12
  · subst c2; rfl
  by_cases c3 : c = 13
  · subst c3; rfl
  rw [if_neg c0, if_neg c1, if_neg c2, if_neg c3]
  by_cases e : c / 10 = 1
  · rw [if_pos e, List.getElem?_eq_none (by simp; omega)]
  · rw [if_neg e]
theorem wD_fl {D : ZD} (hD : wD D) {h f r o : Int} (hc : cnt D 1 < 10) (hh : 0 ≤ h ∧ h < cnt D 0) (hf : 0 ≤ f ∧ f ≤ 4) : wD (addR D 1 [h, f, r, o]) := by
  obtain ⟨h1, h2, h3, h4, h5, h6, h7, h8⟩ := hD
  refine ⟨fun j hj => ?_, h2, h3, ?_, fun j i j1 j5 hi => ?_, fun v hv => ?_, fun v hv => ?_, fun v hv => ?_⟩
  · rw [cnt_fl]
    by_cases e : j = 1
    · rw [if_pos e, e]
      show cnt D 1 + 1 ≤ 10
      omega
    · rw [if_neg e]; exact h1 j hj
  · rw [cnt_fl, if_neg (by omega), dC_fl, if_neg (by omega), if_neg (by omega), if_neg (by omega), if_neg (by omega)]
    exact h4
  · have hw4 := wdt_le j
    have hl := h5 j i j1 j5 hi
    rw [cnt_fl, dC_fl]
    by_cases e : j = 1
    · subst e
      rw [if_pos rfl]
      have : i = 0 ∨ i = 1 ∨ i = 2 ∨ i = 3 := by omega
      rcases this with rfl | rfl | rfl | rfl
      · rw [if_pos rfl, List.length_append, hl]; rfl
      · rw [if_neg (by omega), if_pos rfl, List.length_append, hl]; rfl
      · rw [if_neg (by omega), if_neg (by omega), if_pos rfl, List.length_append, hl]; rfl
      · rw [if_neg (by omega), if_neg (by omega), if_neg (by omega), if_pos rfl, List.length_append, hl]; rfl
    · rw [if_neg (by omega), if_neg (by omega), if_neg (by omega), if_neg (by omega), if_neg e]
      exact hl
  · rw [dC_fl, if_neg (by omega), if_neg (by omega), if_neg (by omega), if_neg (by omega)] at hv
    exact h6 v hv
  · rw [dC_fl, if_pos rfl] at hv
    rw [cnt_fl, if_neg (by omega)]
    rcases List.mem_append.mp hv with hv | hv
    · exact h7 v hv
    · rw [List.mem_singleton.mp hv]; exact hh
  · rw [dC_fl, if_neg (by omega), if_pos rfl] at hv
    rcases List.mem_append.mp hv with hv | hv
    · exact h8 v hv
    · rw [List.mem_singleton.mp hv]; exact hf
theorem fx_fl {D : ZD} (hD : wD D) {h f r o h' f' : Int} (hn : fxI D h f = -1) : fxI (addR D 1 [h, f, r, o]) h' f' = if h' = h ∧ f' = f then (cnt D 1 : Int) else fxI D h' f' := by
  have hl : (dC D 10).length = (dC D 11).length := by
    have a := hD.2.2.2.2.1 1 0 (by omega) (by omega) (by decide)
    have b := hD.2.2.2.2.1 1 1 (by omega) (by omega) (by decide)
    exact a.trans b.symm
  unfold fxI
  rw [dC_fl, if_pos rfl, dC_fl, if_neg (by omega), if_pos rfl, fxl_app _ _ hl]
  by_cases c : h' = h ∧ f' = f
  · rw [if_pos c, c.1, c.2, if_pos (show fxI.fxl h f (dC D 10) (dC D 11) = -1 from hn), if_pos ⟨rfl, rfl⟩]
    rfl
  · rw [if_neg c]
    split
    · rename_i c2
      rw [if_neg (fun q => c ⟨q.1.symm, q.2.symm⟩), c2]
    · rfl
theorem cP_fl {s s' : Zs} {t : Nat} {T : Nat → Int} {n : Nat} {y : PS} {D : ZD} (ht : t = 7 ∨ t = 43) (h : cP s t T n y D) {a b r o : Int} (hc : cnt D 1 < 10) (ha : 0 ≤ a ∧ a < cnt D 0) (hb : 0 ≤ b ∧ b ≤ 4) (hn : fxI D a b = -1)
    (e1 : s' (t + 1) 1 = ((cnt D 1 + 1 : Nat) : Int)) (e2 : s' (t + 34) (a * 6 + b).toNat = (cnt D 1 : Int)) (e3 : ∀ j v, [a, b, r, o][j]? = some v → s' (t + 2 + cnt D 1) j = v)
    (f : ∀ c j, ¬ (c = t + 1 ∧ j = 1) → ¬ (c = t + 34 ∧ j = (a * 6 + b).toNat) → ¬ c = t + 2 + cnt D 1 → s' c j = s c j) : cP s' t T n y (addR D 1 [a, b, r, o]) ∧ frT t s s' := by
  have out : ∀ c j, ¬ (t ≤ c ∧ c ≤ t + 35) → s' c j = s c j := fun c j hc' => f c j (by omega) (by omega) (by omega)
  have h0 := h.2.2.1.1 0 (by omega)
  have h0 : cnt D 0 ≤ 5 := h0
  obtain ⟨h1, h2, h3, h4, h5⟩ := h.2.1
  refine ⟨⟨pst_T h.1 (fun c j hc' => out c j (by omega)), ⟨fun j hj => ?_, fun q hq => ?_, fun i v hv => ?_, fun j c i v j1 j5 hj hv => ?_, fun q hq => ?_⟩, wD_fl h.2.2.1 hc ha hb, fun h0' => ?_, fun j => by rw [out 1000 j (by omega)]; exact h.2.2.2.2 j⟩, frT_row out⟩
  · rw [cnt_fl]
    by_cases e : j = 1
    · rw [if_pos e, e]; exact e1
    · rw [if_neg e, f (t + 1) j (fun q => e q.2) (by omega) (by omega)]
      exact h1 j hj
  · rw [f (t + 32) q (by omega) (by omega) (by omega)]
    exact h2 q hq
  · rw [dC_fl, if_neg (by omega), if_neg (by omega), if_neg (by omega), if_neg (by omega)] at hv
    rw [f (t + 33) i (by omega) (by omega) (by omega)]
    exact h3 i v hv
  · have hw4 := wdt_le j
    have hj2 := rbk_of j1 j5
    have hm := h.2.2.1.1 j j5
    have old : (dC D (10 * j + c))[i]? = some v → (j = 1 → i < cnt D 1) → s' (t + rbk j + i) c = v := fun hv2 hlt => by
      have hil := (List.getElem?_eq_some_iff.mp hv2).1
      rw [h.2.2.1.2.2.2.2.1 j c j1 j5 hj] at hil
      rw [f (t + rbk j + i) c (by omega) (by omega) ?_]
      · exact h4 j c i v j1 j5 hj hv2
      · by_cases e : j = 1
        · subst e
          have := hlt rfl
          show ¬ t + 2 + i = t + 2 + cnt D 1
          omega
        · have := hj2.2.2 1 (by omega) (by omega) (fun q => e q.symm) i (cnt D 1) (by omega) (by show cnt D 1 < 10; omega)
          have this : rbk j + i ≠ 2 + cnt D 1 := this
          omega
    rw [dC_fl] at hv
    by_cases e : j = 1
    · subst e
      have hl := h.2.2.1.2.2.2.2.1 1 c j1 j5 hj
      have nw : ∀ u, [a, b, r, o][c]? = some u → (dC D (10 * 1 + c) ++ [u])[i]? = some v → s' (t + rbk 1 + i) c = v := fun u hu hv => by
        rcases app_get hv with ⟨g1, g2⟩ | ⟨g1, g2⟩
        · rw [hl] at g1
          exact old g2 (fun _ => g1)
        · rw [hl] at g1
          rw [g1, g2]
          exact e3 c u hu
      have : c = 0 ∨ c = 1 ∨ c = 2 ∨ c = 3 := by omega
      rcases this with rfl | rfl | rfl | rfl
      · rw [if_pos rfl] at hv; exact nw a rfl hv
      · rw [if_neg (by omega), if_pos rfl] at hv; exact nw b rfl hv
      · rw [if_neg (by omega), if_neg (by omega), if_pos rfl] at hv; exact nw r rfl hv
      · rw [if_neg (by omega), if_neg (by omega), if_neg (by omega), if_pos rfl] at hv; exact nw o rfl hv
    · rw [if_neg (by omega), if_neg (by omega), if_neg (by omega), if_neg (by omega)] at hv
      exact old hv (fun q => absurd q e)
  · rw [fx_fl h.2.2.1 hn]
    by_cases e : q = (a * 6 + b).toNat
    · rw [if_pos (by omega), e]
      exact e2
    · rw [if_neg (by omega), f (t + 34) q (by omega) (fun x => e x.2) (by omega)]
      exact h5 q hq
  · have hh := h.2.2.2.1 h0'
    unfold cDh at hh ⊢
    rw [f t 5 (by omega) (by omega) (by omega), f t 6 (by omega) (by omega) (by omega), f (t + 29) 1 (by omega) (by omega) (by omega)]
    exact hh
theorem fl_add {s : Zs} {t : Nat} {T : Nat → Int} {n : Nat} {y : PS} {D : ZD} (ht : t = 7 ∨ t = 43) (h : cP s t T n y D) {a b r o : Int} (hc : cnt D 1 < 10) (ha : 0 ≤ a ∧ a < cnt D 0) (hb : 0 ≤ b ∧ b ≤ 4) (hn : fxI D a b = -1) {s' : Zs}
    (e : s' = zu (zu (zu (zu (zu (zu s (t + 1) 1 (w32 (s (t + 1) 1 + 1))) (zrho (t + 12) (s (t + 1) 1).toNat) 0 a) (zrho (t + 12) (s (t + 1) 1).toNat) 1 b) (zrho (t + 12) (s (t + 1) 1).toNat) 2 r) (zrho (t + 12) (s (t + 1) 1).toNat) 3 o) (t + 34) (w32 (w32 (a * 6) + b)).toNat (s (t + 1) 1)) : cP s' t T n y (addR D 1 [a, b, r, o]) ∧ frT t s s' := by
  have c1 : s (t + 1) 1 = (cnt D 1 : Int) := h.2.1.1 1 (by omega)
  have h0 : cnt D 0 ≤ 5 := h.2.2.1.1 0 (by omega)
  rw [c1, Int.toNat_natCast, zrow1 ht hc, show w32 ((cnt D 1 : Int) + 1) = ((cnt D 1 + 1 : Nat) : Int) from by rw [w32_id (by omega) (by omega)]; omega, show w32 (w32 (a * 6) + b) = a * 6 + b from by rw [w32_id (z := a * 6) (by omega) (by omega), w32_id (by omega) (by omega)]] at e
  subst e
  refine cP_fl ht h hc ha hb hn ?_ ?_ (fun j v hv => ?_) (fun c j x1 x2 x3 => ?_)
  · rw [zu_n (by omega), zu_n (by omega), zu_n (by omega), zu_n (by omega), zu_n (by omega), zu_eq]
  · rw [zu_eq]
  · have hj := (List.getElem?_eq_some_iff.mp hv).1
    simp only [List.length_cons, List.length_nil] at hj
    have : j = 0 ∨ j = 1 ∨ j = 2 ∨ j = 3 := by omega
    rcases this with rfl | rfl | rfl | rfl
    · cases hv
      rw [zu_n (by omega), zu_n (by omega), zu_n (by omega), zu_n (by omega), zu_eq]
    · cases hv
      rw [zu_n (by omega), zu_n (by omega), zu_n (by omega), zu_eq]
    · cases hv
      rw [zu_n (by omega), zu_n (by omega), zu_eq]
    · cases hv
      rw [zu_n (by omega), zu_eq]
  · rw [zu_n (fun q => x2 q), zu_n (fun q => x3 q.1), zu_n (fun q => x3 q.1), zu_n (fun q => x3 q.1), zu_n (fun q => x3 q.1), zu_n (fun q => x1 q)]
theorem eM_pos {T : Nat → Int} {n b : Nat} (hb : b ≤ n) : 0 ≤ eM T n b := (nbs_bd _ (fun i hi => ze_all _ b rfl hb (b + i) (by omega) (by omega))).1
section Zcf
variable {N t : Nat} {s : Zs} {T : Nat → Int} {n : Nat} {x : PS} {D : ZD} {Q : Zr → Prop}
theorem gNh_0 (h : (gNh T n x).1 = 0) : gNh T n x = x ∧ eQ T n (kB T n x.2) = 3 := by
  have h0 := gNh_z h
  unfold gNh at h ⊢
  by_cases c : eQ T n (kB T n x.2) = 3
  · rw [if_pos c]; exact ⟨rfl, c⟩
  · rw [if_neg c] at h
    exact absurd h (gF_ne (by decide) h0)
/-- behind the number of a flight told already or not -/
def gFx (T : Nat → Int) (n : Nat) (D : ZD) (h v : Int) (x : PS) : PS := if x.1 = 0 ∧ fxI D h v ≠ -1 then gF T n 3 x else x
theorem gFx_z {h v : Int} (hz : (gFx T n D h v x).1 = 0) : x.1 = 0 ∧ fxI D h v = -1 := by
  unfold gFx at hz
  by_cases c : x.1 = 0 ∧ fxI D h v ≠ -1
  · rw [if_pos c] at hz
    exact absurd hz (gF_ne (by decide) c.1)
  · rw [if_neg c] at hz
    exact ⟨hz, Decidable.byContradiction fun q => c ⟨hz, q⟩⟩
theorem cFlight (ht : t = 7 ∨ t = 43) (h0 : x.1 = 0) (h : cP s t T n x D) (k : ∀ s', frT t s s' → cP s' t T n (pFlight T n x D).1 (pFlight T n x D).2 → Q ([], s')) : zC N 1154 [(((4 : Nat) : Int), 0), (((t : Nat) : Int), 0)] s Q := by
  refine c_X9_readFlight (b_X9_readFlight_0 0 0 0 0 s ht (fun m _ => cFi (k' := 1) ht (by omega) h0 h (fun s1 f1 h1 => ?_)))
  refine b_X9_readFlight_6 0 0 0 0 s1 ht (fun m _ => cTo (k' := 0) ht (by omega) (by omega) h1 (fun s2 f2 h2 => ?_))
  refine b_X9_readFlight_15 0 0 0 0 _ s2 ht (fun m _ => cNh ht h2 (fun s3 f3 h3 => ?_))
  have hv0 : vTo T n (dN D 0) (gFi T n D 1 x) = -1 → (gNh T n (gTo T n (dN D 0) (gFi T n D 1 x))).1 ≠ 0 := fun e q => by
    have b2 := gTo_0 (gNh_z q)
    have b3 : vTo T n (dN D 0) (gFi T n D 1 x) = ixW (eW T n (kB T n (gFi T n D 1 x).2)) (dN D 0) := if_pos b2.1
    exact b2.2 (b3.symm.trans e)
  have hvb : -1 ≤ vTo T n (dN D 0) (gFi T n D 1 x) ∧ vTo T n (dN D 0) (gFi T n D 1 x) < cnt D 0 := by
    unfold vTo
    have hc : cnt D 0 = (dN D 0).length := rfl
    split
    · rw [hc]; exact ixW_bd _
    · omega
  have hc5 : cnt D 0 ≤ 5 := h.2.2.1.1 0 (by omega)
  -- behind the test of a flight told already
  have go : ∀ (m : Nat) (s4 : Zs), frT t s s4 → cP s4 t T n (gFx T n D (vTo T n (dN D 0) (gFi T n D 1 x)) (vE T n (gTo T n (dN D 0) (gFi T n D 1 x))) (gNh T n (gTo T n (dN D 0) (gFi T n D 1 x)))) D → zT (zE 1154) (Pt PX9_readFlight) m (40, [((4 : Nat) : Int), ((t : Nat) : Int), vTo T n (dN D 0) (gFi T n D 1 x), 0, 0, 0], [], s4) Q := fun m s4 F4 h4 => by
    have z := flr_c h4 (vTo T n (dN D 0) (gFi T n D 1 x))
    have on : ∀ m' : Nat, zC m' 912 [(((1 : Nat) : Int), 0), (0, 0), (flr D (vTo T n (dN D 0) (gFi T n D 1 x)) - 1, 0)] s4 (fun p => zT (zE 1154) (Pt PX9_readFlight) m' (55, [((4 : Nat) : Int), ((t : Nat) : Int), vTo T n (dN D 0) (gFi T n D 1 x), 0, 0, 0], p.1 ++ [], p.2) Q) := fun m' => by
      refine cN ht (by omega) h4 (fun s5 f5 h5 => ?_)
      refine b_X9_readFlight_55 _ 0 0 0 _ s5 ht (fun m _ => cW (i := 3) ht (by omega) h5 (fun s6 f6 h6 => ?_))
      refine b_X9_readFlight_64 _ _ 0 0 s6 ht (fun m _ => cN ht (by omega) h6 (fun s7 f7 h7 => ?_))
      refine b_X9_readFlight_74 _ _ 0 0 _ s7 ht (fun m _ => cW (i := 4) ht (by omega) h7 (fun s8 f8 h8 => ?_))
      refine b_X9_readFlight_84 _ _ _ 0 s8 ht (fun m _ => cN ht (by omega) h8 (fun s9 f9 h9 => ?_))
      refine b_X9_readFlight_94 _ _ _ 0 _ s9 ht (fun m _ => cEnd ht h9 (fun s10 f10 h10 => ?_))
      have F : frT t s s10 := frT_tr (frT_tr (frT_tr (frT_tr (frT_tr (frT_tr F4 f5) f6) f7) f8) f9) f10
      refine b_X9_readFlight_100 _ _ _ _ _ s10 ht (fun g => ?_) (fun g m2 _ => ?_)
      · have g := ite10 g
        have e : (pFlight T n x D).2 = D := if_neg g
        refine k s10 F ?_
        rw [e]
        exact h10
      · have g := ite11 g
        have z9 := gS_z g
        have z8 := gN_z z9
        have z7 := gW_z z8
        have z6 := gN_z z7
        have z5 := gW_z z6
        have z4 := gN_z z5
        obtain ⟨z3, zf⟩ := gFx_z z4
        obtain ⟨e3, q3⟩ := gNh_0 z3
        have z2 := gNh_z z3
        have zt := gTo_0 z2
        have z1 := gTo_z z2
        have hc := gFi_0 z1 h0
        have hc : cnt D 1 < 10 := hc
        have e : (pFlight T n x D).2 = addR D 1 [vTo T n (dN D 0) (gFi T n D 1 x), vE T n (gFx T n D (vTo T n (dN D 0) (gFi T n D 1 x)) (vE T n (gTo T n (dN D 0) (gFi T n D 1 x))) (gNh T n (gTo T n (dN D 0) (gFi T n D 1 x)))), vE T n (gW T n 3 (gN T n 0 (flr D (vTo T n (dN D 0) (gFi T n D 1 x)) - 1) (gFx T n D (vTo T n (dN D 0) (gFi T n D 1 x)) (vE T n (gTo T n (dN D 0) (gFi T n D 1 x))) (gNh T n (gTo T n (dN D 0) (gFi T n D 1 x)))))), vE T n (gW T n 4 (gN T n 1 40 (gW T n 3 (gN T n 0 (flr D (vTo T n (dN D 0) (gFi T n D 1 x)) - 1) (gFx T n D (vTo T n (dN D 0) (gFi T n D 1 x)) (vE T n (gTo T n (dN D 0) (gFi T n D 1 x))) (gNh T n (gTo T n (dN D 0) (gFi T n D 1 x))))))))] := if_pos g
        have e4 : gFx T n D (vTo T n (dN D 0) (gFi T n D 1 x)) (vE T n (gTo T n (dN D 0) (gFi T n D 1 x))) (gNh T n (gTo T n (dN D 0) (gFi T n D 1 x))) = gTo T n (dN D 0) (gFi T n D 1 x) := by
          unfold gFx
          rw [if_neg (fun q => q.2 zf), e3]
        have b5 := gN_0 z5
        have v5 : vN T n 0 (flr D (vTo T n (dN D 0) (gFi T n D 1 x)) - 1) (gFx T n D (vTo T n (dN D 0) (gFi T n D 1 x)) (vE T n (gTo T n (dN D 0) (gFi T n D 1 x))) (gNh T n (gTo T n (dN D 0) (gFi T n D 1 x)))) = vE T n (gFx T n D (vTo T n (dN D 0) (gFi T n D 1 x)) (vE T n (gTo T n (dN D 0) (gFi T n D 1 x))) (gNh T n (gTo T n (dN D 0) (gFi T n D 1 x)))) := if_pos z5
        have v7 : vN T n 1 40 (gW T n 3 (gN T n 0 (flr D (vTo T n (dN D 0) (gFi T n D 1 x)) - 1) (gFx T n D (vTo T n (dN D 0) (gFi T n D 1 x)) (vE T n (gTo T n (dN D 0) (gFi T n D 1 x))) (gNh T n (gTo T n (dN D 0) (gFi T n D 1 x)))))) = vE T n (gW T n 3 (gN T n 0 (flr D (vTo T n (dN D 0) (gFi T n D 1 x)) - 1) (gFx T n D (vTo T n (dN D 0) (gFi T n D 1 x)) (vE T n (gTo T n (dN D 0) (gFi T n D 1 x))) (gNh T n (gTo T n (dN D 0) (gFi T n D 1 x)))))) := if_pos z7
        have v9 : vN T n 0 10 (gW T n 4 (gN T n 1 40 (gW T n 3 (gN T n 0 (flr D (vTo T n (dN D 0) (gFi T n D 1 x)) - 1) (gFx T n D (vTo T n (dN D 0) (gFi T n D 1 x)) (vE T n (gTo T n (dN D 0) (gFi T n D 1 x))) (gNh T n (gTo T n (dN D 0) (gFi T n D 1 x)))))))) = vE T n (gW T n 4 (gN T n 1 40 (gW T n 3 (gN T n 0 (flr D (vTo T n (dN D 0) (gFi T n D 1 x)) - 1) (gFx T n D (vTo T n (dN D 0) (gFi T n D 1 x)) (vE T n (gTo T n (dN D 0) (gFi T n D 1 x))) (gNh T n (gTo T n (dN D 0) (gFi T n D 1 x)))))))) := if_pos z9
        have hvt : vTo T n (dN D 0) (gFi T n D 1 x) ≠ -1 := fun q => hv0 q z3
        have zz := z.2.2 (by omega) (by rw [h4.2.1.1 0 (by omega)]; omega)
        have hb : 0 ≤ vE T n (gFx T n D (vTo T n (dN D 0) (gFi T n D 1 x)) (vE T n (gTo T n (dN D 0) (gFi T n D 1 x))) (gNh T n (gTo T n (dN D 0) (gFi T n D 1 x)))) ∧ vE T n (gFx T n D (vTo T n (dN D 0) (gFi T n D 1 x)) (vE T n (gTo T n (dN D 0) (gFi T n D 1 x))) (gNh T n (gTo T n (dN D 0) (gFi T n D 1 x)))) ≤ 4 := by
          unfold vE at b5 ⊢
          omega
        have hz : fxI D (vTo T n (dN D 0) (gFi T n D 1 x)) (vE T n (gFx T n D (vTo T n (dN D 0) (gFi T n D 1 x)) (vE T n (gTo T n (dN D 0) (gFi T n D 1 x))) (gNh T n (gTo T n (dN D 0) (gFi T n D 1 x))))) = -1 := by
          rw [e4]
          exact zf
        refine c_X8_setFlight (b_X8_setFlight_0 _ _ _ _ _ _ ht ?_)
        refine b_X9_readFlight_118 _ _ _ _ _ ht ?_
        have R := fl_add (a := vTo T n (dN D 0) (gFi T n D 1 x)) (b := vN T n 0 (flr D (vTo T n (dN D 0) (gFi T n D 1 x)) - 1) (gFx T n D (vTo T n (dN D 0) (gFi T n D 1 x)) (vE T n (gTo T n (dN D 0) (gFi T n D 1 x))) (gNh T n (gTo T n (dN D 0) (gFi T n D 1 x))))) ht h10 hc (by omega) (by rw [v5]; exact hb) (by rw [v5]; exact hz) (r := vN T n 1 40 (gW T n 3 (gN T n 0 (flr D (vTo T n (dN D 0) (gFi T n D 1 x)) - 1) (gFx T n D (vTo T n (dN D 0) (gFi T n D 1 x)) (vE T n (gTo T n (dN D 0) (gFi T n D 1 x))) (gNh T n (gTo T n (dN D 0) (gFi T n D 1 x))))))) (o := vN T n 0 10 (gW T n 4 (gN T n 1 40 (gW T n 3 (gN T n 0 (flr D (vTo T n (dN D 0) (gFi T n D 1 x)) - 1) (gFx T n D (vTo T n (dN D 0) (gFi T n D 1 x)) (vE T n (gTo T n (dN D 0) (gFi T n D 1 x))) (gNh T n (gTo T n (dN D 0) (gFi T n D 1 x))))))))) rfl
        refine k _ (frT_tr F R.2) ?_
        rw [e]
        have R1 := R.1
        rw [v5, v7, v9] at R1
        rw [v5, v7, v9]
        exact R1
    refine b_X9_readFlight_40 _ 0 0 0 s4 ht (fun g2 m' _ => ?_) (fun g4 g5 m' _ => ?_) (fun g7 g8 m' _ => ?_)
    · have := on m'
      rw [z.1 g2] at this
      exact this
    · have := on m'
      rw [z.2.1 g5] at this
      exact this
    · have zz := z.2.2 g7 g8
      have := on m'
      rw [zz.1, w32_id (by omega) (by omega)]
      exact this
  have x3 : ∀ v : Int, (gNh T n (gTo T n (dN D 0) (gFi T n D 1 x))).1 ≠ 0 → gFx T n D (vTo T n (dN D 0) (gFi T n D 1 x)) v (gNh T n (gTo T n (dN D 0) (gFi T n D 1 x))) = gNh T n (gTo T n (dN D 0) (gFi T n D 1 x)) := fun v q => if_neg (fun c => q c.1)
  have no : ∀ v : Int, fxI D (vTo T n (dN D 0) (gFi T n D 1 x)) v = -1 → gFx T n D (vTo T n (dN D 0) (gFi T n D 1 x)) v (gNh T n (gTo T n (dN D 0) (gFi T n D 1 x))) = gNh T n (gTo T n (dN D 0) (gFi T n D 1 x)) := fun v q => if_neg (fun c => c.2 q)
  have F3 : frT t s s3 := frT_tr (frT_tr f1 f2) f3
  have hpos : 0 ≤ vE T n (gTo T n (dN D 0) (gFi T n D 1 x)) := eM_pos (kB_bd (cP_n h2))
  refine b_X9_readFlight_25 _ 0 0 0 _ _ s3 ht (fun g2 => ?_) (fun g3 g4 => ?_) (fun g5 g6 g7 => ?_) (fun g8 g9 g10 g11 => ?_) (fun g12 g13 g14 g15 g16 => ?_) (fun g12 g13 g14 g15 g16 m' _ => ?_)
  · exact go _ s3 F3 (by rw [no _ (fx_neg h.2.2.1 g2)]; exact h3)
  · have q : (gNh T n (gTo T n (dN D 0) (gFi T n D 1 x))).1 ≠ 0 := fun q => by
      rw [if_pos q] at g4
      unfold vE at hpos
      omega
    exact go _ s3 F3 (by rw [x3 _ q]; exact h3)
  · have q : (gNh T n (gTo T n (dN D 0) (gFi T n D 1 x))).1 = 0 := Decidable.byContradiction fun q => by
      rw [if_neg q] at g6
      omega
    rw [if_pos q] at g7
    exact go _ s3 F3 (by rw [no _ (fx_hi h.2.2.1 (by unfold vE; omega))]; exact h3)
  · rw [w32_id (z := _ * 6) (by omega) (by omega), w32_id (by omega) (by omega)] at g11
    omega
  · have q : (gNh T n (gTo T n (dN D 0) (gFi T n D 1 x))).1 = 0 := Decidable.byContradiction fun q => by
      rw [if_neg q] at g13
      omega
    rw [if_pos q] at g13 g14 g15 g16
    rw [w32_id (z := _ * 6) (by omega) (by omega), w32_id (by omega) (by omega)] at g15 g16
    rw [h3.2.1.2.2.2.2 _ (by omega)] at g16
    have q6 : (((vTo T n (dN D 0) (gFi T n D 1 x) * 6 + eM T n (kB T n (gTo T n (dN D 0) (gFi T n D 1 x)).2)).toNat / 6 : Nat) : Int) = vTo T n (dN D 0) (gFi T n D 1 x) := by omega
    have q7 : (((vTo T n (dN D 0) (gFi T n D 1 x) * 6 + eM T n (kB T n (gTo T n (dN D 0) (gFi T n D 1 x)).2)).toNat % 6 : Nat) : Int) = eM T n (kB T n (gTo T n (dN D 0) (gFi T n D 1 x)).2) := by omega
    rw [q6, q7] at g16
    exact go _ s3 F3 (by rw [no (vE T n (gTo T n (dN D 0) (gFi T n D 1 x))) g16]; exact h3)
  · have q : (gNh T n (gTo T n (dN D 0) (gFi T n D 1 x))).1 = 0 := Decidable.byContradiction fun q => by
      rw [if_neg q] at g13
      omega
    rw [if_pos q] at g13 g14 g15 g16
    rw [w32_id (z := _ * 6) (by omega) (by omega), w32_id (by omega) (by omega)] at g15 g16
    rw [h3.2.1.2.2.2.2 _ (by omega)] at g16
    have q6 : (((vTo T n (dN D 0) (gFi T n D 1 x) * 6 + eM T n (kB T n (gTo T n (dN D 0) (gFi T n D 1 x)).2)).toNat / 6 : Nat) : Int) = vTo T n (dN D 0) (gFi T n D 1 x) := by omega
    have q7 : (((vTo T n (dN D 0) (gFi T n D 1 x) * 6 + eM T n (kB T n (gTo T n (dN D 0) (gFi T n D 1 x)).2)).toNat % 6 : Nat) : Int) = eM T n (kB T n (gTo T n (dN D 0) (gFi T n D 1 x)).2) := by omega
    rw [q6, q7] at g16
    have hf : fxI D (vTo T n (dN D 0) (gFi T n D 1 x)) (vE T n (gTo T n (dN D 0) (gFi T n D 1 x))) ≠ -1 := g16
    have e : gFx T n D (vTo T n (dN D 0) (gFi T n D 1 x)) (vE T n (gTo T n (dN D 0) (gFi T n D 1 x))) (gNh T n (gTo T n (dN D 0) (gFi T n D 1 x))) = gF T n 3 (gNh T n (gTo T n (dN D 0) (gFi T n D 1 x))) := if_pos ⟨q, hf⟩
    exact cFa ht (by decide) h3 (fun s4 f4 h4 => go _ s4 (frT_tr F3 f4) (by rw [e]; exact h4))
end Zcf
