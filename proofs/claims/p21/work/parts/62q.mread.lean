/-! a law of price read by the model: the codes that it puts -/
section Zme
variable {N : Nat} {s : Zs} {T : Nat → Int} {n p : Nat} {D : ZD}
/-- the codes put since c0, and those to come, are Gt -/
def emM (s0 : Zs) (Gt : List Int) (c0 : Int) (s : Zs) (rest : List Int) : Prop := 0 ≤ c0 ∧ (∀ j, j < c0.toNat → s 194 j = s0 194 j) ∧ ∃ g : List Int, s 172 31 = c0 + ((g.length : Nat) : Int) ∧ (∀ i c, g[i]? = some c → s 194 (c0.toNat + i) = c) ∧ Gt = g ++ rest
theorem emM_e {s0 s' : Zs} {Gt rest : List Int} {c0 : Int} (h : emM s0 Gt c0 s rest) (e1 : s' 172 31 = s 172 31) (e2 : ∀ j, s' 194 j = s 194 j) : emM s0 Gt c0 s' rest := by
  obtain ⟨a, b, g, g1, g2, g3⟩ := h
  exact ⟨a, fun j hj => (e2 j).trans (b j hj), g, e1.trans g1, fun i c hi => (e2 _).trans (g2 i c hi), g3⟩
theorem emM_put {s0 s' : Zs} {Gt rest : List Int} {c0 v : Int} (h : emM s0 Gt c0 s (v :: rest)) (e1 : s' 172 31 = s 172 31 + 1) (pv : s' 194 (s 172 31).toNat = v) (po : ∀ j, j ≠ (s 172 31).toNat → s' 194 j = s 194 j) : emM s0 Gt c0 s' rest := by
  obtain ⟨a, b, g, g1, g2, g3⟩ := h
  have e : (s 172 31).toNat = c0.toNat + g.length := by omega
  refine ⟨a, fun j hj => (po j (by omega)).trans (b j hj), g ++ [v], by rw [e1, g1, List.length_append]; show c0 + ((g.length : Nat) : Int) + 1 = c0 + ((g.length + 1 : Nat) : Int); omega, fun i c hi => ?_, by rw [g3, List.append_assoc]; rfl⟩
  by_cases l : i < g.length
  · rw [List.getElem?_append_left l] at hi
    exact (po _ (by omega)).trans (g2 i c hi)
  · have hl := (List.getElem?_eq_some_iff.mp hi).1
    rw [List.length_append] at hl
    have hl : i < g.length + 1 := hl
    have : i = g.length := by omega
    subst this
    rw [List.getElem?_append_right (by omega), Nat.sub_self] at hi
    have : v = c := by simpa using hi
    rw [← e, pv, this]
theorem puts_qE {v : Int} {Q : Zr → Prop} (h : mst s T n p) {l : List (Bool × Bool)} (hm : mo s l) (hc : 0 ≤ s 172 31 ∧ s 172 31 ≤ 100000) (k : ∀ s', frR s s' → mst s' T n p → mo s' l → s' 172 31 = s 172 31 + 1 → s' 194 (s 172 31).toNat = v → (∀ j, j ≠ (s 172 31).toNat → s' 194 j = s 194 j) → Q ([], s')) : zC N 1493 [(((172 : Nat) : Int), 0), (v, 0)] s Q := by
  refine c_X11_puts (b_X11_puts_0 _ s (k _ (fun c j a b => by rw [zu_n (by omega), zu_n (by omega)]) (mst_out h (fun c i hci => by rw [zu_n (by omega), zu_n (by omega)])) (mo_out l (fun j hj => ⟨by rw [zu_n (by omega), zu_n (by omega)], by rw [zu_n (by omega), zu_n (by omega)]⟩) hm) ?_ ?_ (fun j hj => ?_)))
  · rw [zu_eq, w32_id (by omega) (by omega)]
  · rw [zu_n (by omega), zu_eq]
  · rw [zu_n (by omega), zu_n (by omega)]
def RIE (s0 s : Zs) (T : Nat → Int) (n : Nat) (c0 : Int) (Gt : List Int) (p : Nat) (w : Bool) (l : List (Bool × Bool)) : Prop := RI s0 s T n c0 p w l ∧ emM s0 Gt c0 s (aK T n p w l)
def qPrE (s0 : Zs) (T : Nat → Int) (n : Nat) (c0 : Int) (Gt : List Int) (y : PS) (r : Zr) : Prop := qPr s0 T n c0 y r ∧ (y.1 = 0 → emM s0 Gt c0 r.2 []) ∧ ∀ j, j < c0.toNat → r.2 194 j = s0 194 j
theorem reads_badE {s0 : Zs} {c0 k' : Int} {Gt : List Int} {y : PS} (lo : ∀ j, j < c0.toNat → s 194 j = s0 194 j) (hk : 1 ≤ k' ∧ k' ≤ 5) (h : mst s T n p) (f : frR s0 s) (hy : y = gF T n k' (0, p)) : qPrE s0 T n c0 Gt y ([(0, 0)], zu s 172 9 (w32 (k' + w32 (16 * s 172 5)))) := ⟨reads_bad hk h f hy, fun q => by
  have hne : y.1 ≠ 0 := by rw [hy]; exact gF_ne hk.1 rfl
  exact absurd q hne, fun j hj => by
  show zu s 172 9 (w32 (k' + w32 (16 * s 172 5))) 194 j = _
  rw [zu_n (by omega)]
  exact lo j hj⟩
theorem RI_nextE {s0 s1 : Zs} {c0 : Int} {Gt : List Int} {w : Bool} {l : List (Bool × Bool)} {Q : Zr → Prop} {m : Nat} (h : mst s1 T n p) (hne : eQ T n (kB T n p) ≠ 1) (h1 : l ≠ []) (h2 : l.length ≤ 6) (h3 : mo s1 l) (f : frR s0 s1) (b1 : c0 ≤ s1 172 31) (b0 : 0 ≤ s1 172 31) (b2 : s1 172 31 ≤ 1001 + (p : Int)) (b3 : w = false → c0 < s1 172 31) (em : emM s0 Gt c0 s1 (aK T n (kE T n p) w l)) (k : ∀ s', RIE s0 s' T n c0 Gt (kE T n p) w l → Q ([], s')) : zC m 1482 [(((172 : Nat) : Int), 0)] s1 Q := by
  refine mst_next h (fun s' f' p' => k s' ?_)
  have e31 : s' 172 31 = s1 172 31 := f' 172 31 (by omega)
  have hlt := eQ_lt h.2.1 hne
  exact ⟨⟨p', h1, h2, mo_out l (fun j _ => ⟨f' _ _ (by omega), f' _ _ (by omega)⟩) h3, frR_tr f (frR_M f'), by omega, by omega, by omega, fun q => by have := b3 q; omega⟩, emM_e em e31 (fun j => f' _ _ (by omega))⟩
theorem reads_loopE {s0 : Zs} {c0 : Int} {Gt : List Int} : ∀ (M : Nat) (p : Nat) (w : Bool) (l : List (Bool × Bool)) (s : Zs) (x3 x4 x5 : Int), RIE s0 s T n c0 Gt p w l → zT (zE 1496) (Pt PX11_reads) M (11, [((172 : Nat) : Int), ((l.length - 1 : Nat) : Int), wI w, x3, x4, x5], [], s) (qPrE s0 T n c0 Gt (aR T n p w l)) := by
  intro M
  induction M using Nat.strongRecOn with
  | ind M ih =>
    intro p w l s x3 x4 x5 hI
    obtain ⟨⟨h, l1, l2, hm, f, b1, b0, b2, b3⟩, em⟩ := hI
    have hp := h.2.1
    have hn := h.1.2.1
    have hS : ∀ c, isSg T n (kB T n p) c = true ↔ (s 172 6 = 3 ∧ s 173 (s 172 5).toNat = c) := fun c => mSg h
    have h23 := mK (i := 23) (C := 1111) h (by omega) (by decide)
    have h24 := mK (i := 24) (C := 423) h (by omega) (by decide)
    have h22 := mK (i := 22) (C := 10631) h (by omega) (by decide)
    have hNu := mNu h
    have hFa := mFa h
    have h6 : s 172 6 = mQ (eQ T n (kB T n p)) := h.2.2.2.2.1
    have k25 := mK (i := 25) (C := 164222) h (by omega) (by decide)
    have k26 := mK (i := 26) (C := 205811839) h (by omega) (by decide)
    have k27 := mK (i := 27) (C := 149099) h (by omega) (by decide)
    have vfa : ∀ {v : Int} (i : Nat), isKw T n (kB T n p) (i : Int) = true → v = (i : Int) - 24 → v = kwi (eW T n (kB T n p)) - 24 := fun {v} i q e => by rw [(isKw_q q).2]; exact e
    have vnu : isNu T n (kB T n p) = true → w32 (100 + s 172 8) = 100 + eM T n (kB T n p) := fun q => by
      have mb := eM_bd (isNu_q q)
      rw [h.2.2.2.2.2.2 (isNu_q q), w32_id (by omega) (by omega)]
    have hne : s 172 6 ≠ 0 → eQ T n (kB T n p) ≠ 1 := fun q q2 => q (h6.trans (mQ_0.mpr q2))
    obtain ⟨a, lt, rfl⟩ : ∃ a lt, l = a :: lt := by cases l with
      | nil => exact absurd rfl l1
      | cons a lt => exact ⟨a, lt, rfl⟩
    have ed : ((a :: lt).length - 1 : Nat) = lt.length := by simp
    rw [ed]
    have l2 : lt.length + 1 ≤ 6 := l2
    have ecm : cmpd (a :: lt) = false ↔ s 196 ((lt.length : Int)).toNat = 0 := by
      rw [Int.toNat_natCast, hm.2.1]
      exact b2i_0.symm
    have elen : (a :: lt).length = lt.length + 1 := rfl
    cases w with
    | false =>
      have b3 := b3 rfl
      have hc : 0 ≤ s 172 31 ∧ s 172 31 ≤ 100000 := by omega
      have bad : ∀ q : PS, q = gF T n 1 (0, p) → qPrE s0 T n c0 Gt q ([(0, 0)], zu s 172 9 (w32 (1 + w32 (16 * s 172 5)))) := fun q hq => reads_badE (lo := em.2.1) (k' := 1) (by decide) h f hq
      have ar : s 172 6 = 3 ∧ (s 173 (s 172 5).toNat = 43 ∨ s 173 (s 172 5).toNat = 45 ∨ s 173 (s 172 5).toNat = 42) → ∀ (v : Int) (m : Nat), m < M → v = (if isSg T n (kB T n p) 43 = true then 20 else if isSg T n (kB T n p) 45 = true then 21 else 22) → zC m 1493 [(((172 : Nat) : Int), 0), (v, 0)] s (fun p' => zT (zE 1496) (Pt PX11_reads) m (240, [((172 : Nat) : Int), (lt.length : Int), 0, x3, x4, x5], p'.1 ++ [], p'.2) (qPrE s0 T n c0 Gt (aR T n p false (a :: lt)))) := fun q v m hm' hv => by
        refine puts_qE h hm hc (fun s1 f1 h1 m1 e1 pv po => ?_)
        refine b_X11_reads_240 _ _ _ _ _ s1 (fun m2 hm2 => RI_nextE (c0 := c0) (Gt := Gt) (w := true) (l := a :: lt) h1 (hne (by omega)) l1 l2 m1 (frR_tr f f1) (by omega) (by omega) (by omega) (fun q => by cases q) (emM_put (v := v) (by have em2 := em; rw [aK_f hp, if_pos (by simp only [hS]; omega)] at em2; rw [hv]; exact em2) e1 pv po) (fun s2 R => ?_))
        refine b_X11_reads_428 _ _ _ _ _ s2 (fun m3 hm3 => ?_)
        rw [aR_f hp, if_pos (by simp only [hS]; omega)]
        exact ih m3 (by omega) _ _ _ s2 _ _ _ R
      have te : s 172 6 = 3 ∧ (s 173 (s 172 5).toNat = 60 ∨ s 173 (s 172 5).toNat = 61) → s 196 ((lt.length : Int)).toNat = 0 → ∀ (v : Int) (m : Nat), m < M → v = (if isSg T n (kB T n p) 60 = true then 24 else 25) → zC m 1493 [(((172 : Nat) : Int), 0), (v, 0)] s (fun p' => zT (zE 1496) (Pt PX11_reads) m (292, [((172 : Nat) : Int), (lt.length : Int), 0, x3, x4, x5], p'.1 ++ [], p'.2) (qPrE s0 T n c0 Gt (aR T n p false (a :: lt)))) := fun q q2 v m hm' hv => by
        refine puts_qE h hm hc (fun s1 f1 h1 m1 e1 pv po => ?_)
        refine b_X11_reads_292 _ _ _ _ _ s1 (fun m2 hm2 => ?_)
        rw [Int.toNat_natCast, show zst3 1 = 1 from by decide]
        refine RI_nextE (c0 := c0) (Gt := Gt) (s1 := zu s1 196 lt.length 1) (w := true) (l := (a.1, true) :: lt) (mst_out h1 (fun c i hci => zu_n (by omega))) (hne (by omega)) (by simp) (by simp; omega) ⟨fun q3 => by rw [zu_n (by omega)]; exact m1.1 q3, by rw [zu_eq]; rfl, mo_out lt (fun j hj => ⟨zu_n (by omega), zu_n (by omega)⟩) m1.2.2⟩ (frR_tr f (frR_tr f1 (fun c j q3 q4 => zu_n (by omega)))) (by rw [zu_n (by omega)]; omega) (by rw [zu_n (by omega)]; omega) (by rw [zu_n (by omega)]; omega) (fun q => by cases q) (emM_e (emM_put (v := v) (by have em2 := em; rw [aK_f hp, if_neg (by simp only [hS]; omega), if_pos (by simp only [hS, ecm]; omega)] at em2; rw [hv]; exact em2) e1 pv po) (zu_n (by omega)) (fun j => zu_n (by omega))) (fun s2 R => ?_)
        refine b_X11_reads_428 _ _ _ _ _ s2 (fun m3 hm3 => ?_)
        rw [aR_f hp, if_neg (by simp only [hS]; omega), if_pos (by simp only [hS, ecm]; omega)]
        exact ih m3 (by omega) _ _ _ s2 _ _ _ R
      have ao : s 172 6 = 1 → (zcmpL (s 172 7) 1111 = 0 ∨ zcmpL (s 172 7) 423 = 0) → ∀ (v : Int) (m : Nat), m < M → v = (if isKw T n (kB T n p) 23 = true then 26 else 27) → zC m 1493 [(((172 : Nat) : Int), 0), (v, 0)] s (fun p' => zT (zE 1496) (Pt PX11_reads) m (345, [((172 : Nat) : Int), (lt.length : Int), 0, x3, x4, x5], p'.1 ++ [], p'.2) (qPrE s0 T n c0 Gt (aR T n p false (a :: lt)))) := fun q q2 v m hm' hv => by
        refine puts_qE h hm hc (fun s1 f1 h1 m1 e1 pv po => ?_)
        refine b_X11_reads_345 _ _ _ _ _ s1 (fun m2 hm2 => ?_)
        rw [Int.toNat_natCast, show zst3 0 = 0 from by decide]
        refine RI_nextE (c0 := c0) (Gt := Gt) (s1 := zu s1 196 lt.length 0) (w := true) (l := (a.1, false) :: lt) (mst_out h1 (fun c i hci => zu_n (by omega))) (hne (by omega)) (by simp) (by simp; omega) ⟨fun q3 => by rw [zu_n (by omega)]; exact m1.1 q3, by rw [zu_eq]; rfl, mo_out lt (fun j hj => ⟨zu_n (by omega), zu_n (by omega)⟩) m1.2.2⟩ (frR_tr f (frR_tr f1 (fun c j q3 q4 => zu_n (by omega)))) (by rw [zu_n (by omega)]; omega) (by rw [zu_n (by omega)]; omega) (by rw [zu_n (by omega)]; omega) (fun q => by cases q) (emM_e (emM_put (v := v) (by have em2 := em; rw [aK_f hp, if_neg (by simp only [hS]; omega), if_neg (by simp only [hS]; omega), if_pos (by first | exact (h23.mpr ⟨q, by omega⟩ |> Or.inl) | (rcases q2 with q2 | q2; exact Or.inl (h23.mpr ⟨q, q2⟩); exact Or.inr (h24.mpr ⟨q, q2⟩)))] at em2; rw [hv]; exact em2) e1 pv po) (zu_n (by omega)) (fun j => zu_n (by omega))) (fun s2 R => ?_)
        refine b_X11_reads_428 _ _ _ _ _ s2 (fun m3 hm3 => ?_)
        rw [aR_f hp, if_neg (by simp only [hS]; omega), if_neg (by simp only [hS]; omega), if_pos (by first | exact (h23.mpr ⟨q, by omega⟩ |> Or.inl) | (rcases q2 with q2 | q2; exact Or.inl (h23.mpr ⟨q, q2⟩); exact Or.inr (h24.mpr ⟨q, q2⟩)))]
        exact ih m3 (by omega) _ _ _ s2 _ _ _ R
      refine b_X11_reads_11 _ _ _ _ _ s (fun g1 g3 g13 g18 => ?_) (fun g1 g3 g13 g18 => ?_) (fun g1 g3 g29 g30 g34 g37 => ?_) (fun g1 g3 g29 g30 g34 g37 => ?_) (fun g1 g3 g29 g30 g47 m hm' => ?_) (fun g1 g3 g55 g56 m hm' => ?_) (fun g1 g72 g73 g77 g81 g85 g89 g91 g97 g98 => ?_) (fun g1 g72 g73 g77 g81 g85 g89 g91 g97 g98 g103 => ?_) (fun g1 g72 g73 g77 g81 g85 g89 g91 g97 g98 g106 m hm' => ?_) (fun g1 g72 g73 g77 g81 g85 g89 g91 g109 g110 g111 => ?_) (fun g1 g72 g73 g77 g81 g85 g89 g91 g109 g110 g111 g116 => ?_) (fun g1 g72 g73 g77 g81 g85 g89 g91 g109 g110 m hm' => ?_) (fun g1 g72 g73 g77 g81 g85 g126 g127 g129 g135 g136 => ?_) (fun g1 g72 g73 g77 g81 g85 g126 g127 g129 g135 g136 g141 => ?_) (fun g1 g72 g73 g77 g81 g85 g126 g127 m hm' => ?_) (fun g1 g72 g73 g77 g81 g159 g160 g162 g168 g169 => ?_) (fun g1 g72 g73 g77 g81 g159 g160 g162 g168 g169 g174 => ?_) (fun g1 g72 g73 g77 g81 g159 g160 m hm' => ?_) (fun g1 g72 g73 g77 g192 m hm' => ?_) (fun g1 g72 g73 g207 m hm' => ?_) (fun g1 g221 g222 m hm' => ?_) (fun g1 => absurd rfl g1) (fun g1 => absurd rfl g1) (fun g1 => absurd rfl g1) (fun g1 => absurd rfl g1) (fun g1 => absurd rfl g1) (fun g1 => absurd rfl g1) (fun g1 => absurd rfl g1) (fun g1 => absurd rfl g1) (fun g1 => absurd rfl g1) (fun g1 => absurd rfl g1) (fun g1 => absurd rfl g1) (fun g1 => absurd rfl g1) (fun g1 => absurd rfl g1) (fun g1 => absurd rfl g1) (fun g1 => absurd rfl g1) (fun g1 => absurd rfl g1) (fun g1 => absurd rfl g1) (fun g1 => absurd rfl g1) (fun g1 => absurd rfl g1) (fun g1 => absurd rfl g1) (fun g1 => absurd rfl g1)
      · refine bad _ ?_
        rw [aR_f hp, if_neg (by simp only [hS]; omega), if_neg (by simp only [hS, ecm]; omega), if_neg (by rw [show (23 : Int) = ((23 : Nat) : Int) from rfl, show (24 : Int) = ((24 : Nat) : Int) from rfl, h23, h24]; omega), if_neg (by rw [hS, elen]; omega), if_neg (by rw [hS, elen]; omega)]
      · refine bad _ ?_
        rw [aR_f hp, if_neg (by simp only [hS]; omega), if_neg (by simp only [hS, ecm]; omega), if_neg (by rw [show (23 : Int) = ((23 : Nat) : Int) from rfl, show (24 : Int) = ((24 : Nat) : Int) from rfl, h23, h24]; omega), if_neg (by rw [hS, elen]; omega), if_neg (by rw [hS, elen]; omega)]
      · refine bad _ ?_
        rw [aR_f hp, if_neg (by simp only [hS]; omega), if_neg (by simp only [hS, ecm]; omega), if_neg (by rw [show (23 : Int) = ((23 : Nat) : Int) from rfl, show (24 : Int) = ((24 : Nat) : Int) from rfl, h23, h24]; omega), if_neg (by rw [hS, elen]; omega), if_neg (by rw [hS, elen]; omega)]
      · refine bad _ ?_
        rw [aR_f hp, if_neg (by simp only [hS]; omega), if_neg (by simp only [hS, ecm]; omega), if_neg (by rw [show (23 : Int) = ((23 : Nat) : Int) from rfl, show (24 : Int) = ((24 : Nat) : Int) from rfl, h23, h24]; omega), if_neg (by rw [hS, elen]; omega), if_neg (by rw [hS, elen]; omega)]
      · exact ao (by assumption) (by omega) _ m hm' (by first | rw [if_pos (show isKw T n (kB T n p) 23 = true from h23.mpr ⟨by assumption, by assumption⟩)] | rw [if_neg (fun q : isKw T n (kB T n p) 23 = true => by have := h23.mp q; omega)])
      · exact ao (by assumption) (by omega) _ m hm' (by first | rw [if_pos (show isKw T n (kB T n p) 23 = true from h23.mpr ⟨by assumption, by assumption⟩)] | rw [if_neg (fun q : isKw T n (kB T n p) 23 = true => by have := h23.mp q; omega)])
      · refine bad _ ?_
        rw [aR_f hp, if_neg (by simp only [hS]; omega), if_neg (by simp only [hS, ecm]; omega), if_neg (by rw [show (23 : Int) = ((23 : Nat) : Int) from rfl, show (24 : Int) = ((24 : Nat) : Int) from rfl, h23, h24]; omega), if_neg (by rw [hS, elen]; omega), if_neg (by rw [hS, elen]; omega)]
      · refine bad _ ?_
        rw [aR_f hp, if_neg (by simp only [hS]; omega), if_neg (by simp only [hS, ecm]; omega), if_neg (by rw [show (23 : Int) = ((23 : Nat) : Int) from rfl, show (24 : Int) = ((24 : Nat) : Int) from rfl, h23, h24]; omega), if_neg (by rw [hS, elen]; omega), if_neg (by rw [hS, elen]; omega)]
      · have e : aR T n p false (a :: lt) = (0, kE T n p) := by
          rw [aR_f hp, if_neg (by simp only [hS]; omega), if_neg (by simp only [hS, ecm]; omega), if_neg (by rw [show (23 : Int) = ((23 : Nat) : Int) from rfl, show (24 : Int) = ((24 : Nat) : Int) from rfl, h23, h24]; omega), if_neg (by rw [hS, elen]; omega), if_pos (by rw [hS, elen]; omega)]
        rw [e]
        refine mst_next h (fun s1 f1 p1 => b_X11_reads_416 _ _ _ _ _ s1 ⟨⟨rfl, frR_tr f (frR_M f1), fun _ => ⟨p1, ?_, ?_⟩, fun q => absurd rfl q⟩, fun _ => emM_e (by have em2 := em; rw [aK_f hp, if_neg (by simp only [hS]; omega), if_neg (by simp only [hS, ecm]; omega), if_neg (by rw [show (23 : Int) = ((23 : Nat) : Int) from rfl, show (24 : Int) = ((24 : Nat) : Int) from rfl, h23, h24]; omega), if_neg (by rw [hS, elen]; omega)] at em2; exact em2) (f1 172 31 (by omega)) (fun j => f1 _ _ (by omega)), fun j hj => (f1 _ _ (by omega)).trans (em.2.1 j hj)⟩)
        · show c0 < s1 172 31; rw [f1 172 31 (by omega)]; exact b3
        · show s1 172 31 ≤ 1000 + ((kE T n p : Nat) : Int); rw [f1 172 31 (by omega)]; have := (eQ_lt hp (hne (by omega))).2; omega
      · refine bad _ ?_
        rw [aR_f hp, if_neg (by simp only [hS]; omega), if_neg (by simp only [hS, ecm]; omega), if_neg (by rw [show (23 : Int) = ((23 : Nat) : Int) from rfl, show (24 : Int) = ((24 : Nat) : Int) from rfl, h23, h24]; omega), if_neg (by rw [hS, elen]; omega), if_neg (by rw [hS, elen]; omega)]
      · refine bad _ ?_
        rw [aR_f hp, if_neg (by simp only [hS]; omega), if_neg (by simp only [hS, ecm]; omega), if_neg (by rw [show (23 : Int) = ((23 : Nat) : Int) from rfl, show (24 : Int) = ((24 : Nat) : Int) from rfl, h23, h24]; omega), if_neg (by rw [hS, elen]; omega), if_neg (by rw [hS, elen]; omega)]
      · have hlt : 1 ≤ lt.length := by omega
        have hl0 : lt ≠ [] := fun q => by rw [q] at hlt; simp at hlt
        refine puts_qE h hm hc (fun s1 f1 h1 m1 e1 pv po => ?_)
        refine b_X11_reads_376 _ _ _ _ _ s1 ?_
        rw [w32_id (by omega) (by omega), show (lt.length : Int) + -1 = ((lt.length - 1 : Nat) : Int) from by omega]
        refine pop2 lt m hl0 (by omega) m1.2.2 (fun m2 hm2 => ?_)
        have pl := popZ_len lt
        have pl1 := pl.2 hl0
        refine RI_nextE (c0 := c0) (Gt := Gt) (w := false) (l := popZ lt) h1 (hne (by omega)) (fun q => by rw [q] at pl1; simp at pl1) (by omega) (mo_pop _ m1.2.2) (frR_tr f f1) (by omega) (by omega) (by omega) (fun _ => by omega) (emM_put (v := 29) (by have em2 := em; rw [aK_f hp, if_neg (by simp only [hS]; omega), if_neg (by simp only [hS]; omega), if_neg (by rw [show (23 : Int) = ((23 : Nat) : Int) from rfl, show (24 : Int) = ((24 : Nat) : Int) from rfl, h23, h24]; omega), if_pos (by rw [hS, elen]; omega)] at em2; exact em2) e1 pv po) (fun s2 R => ?_)
        refine b_X11_reads_428 _ _ _ _ _ s2 (fun m3 hm3 => ?_)
        rw [aR_f hp, if_neg (by simp only [hS]; omega), if_neg (by simp only [hS]; omega), if_neg (by rw [show (23 : Int) = ((23 : Nat) : Int) from rfl, show (24 : Int) = ((24 : Nat) : Int) from rfl, h23, h24]; omega), if_pos (by rw [hS, elen]; omega)]
        exact ih m3 (by omega) _ _ _ s2 _ _ _ R
      · refine bad _ ?_
        rw [aR_f hp, if_neg (by simp only [hS]; omega), if_neg (by simp only [hS, ecm]; omega), if_neg (by rw [show (23 : Int) = ((23 : Nat) : Int) from rfl, show (24 : Int) = ((24 : Nat) : Int) from rfl, h23, h24]; omega), if_neg (by rw [hS, elen]; omega), if_neg (by rw [hS, elen]; omega)]
      · refine bad _ ?_
        rw [aR_f hp, if_neg (by simp only [hS]; omega), if_neg (by simp only [hS, ecm]; omega), if_neg (by rw [show (23 : Int) = ((23 : Nat) : Int) from rfl, show (24 : Int) = ((24 : Nat) : Int) from rfl, h23, h24]; omega), if_neg (by rw [hS, elen]; omega), if_neg (by rw [hS, elen]; omega)]
      · exact te (by omega) (by assumption) _ m hm' (by first | rw [if_pos ((hS 60).mpr (by omega))] | rw [if_neg (fun q => by have := (hS 60).mp q; omega)])
      · refine bad _ ?_
        rw [aR_f hp, if_neg (by simp only [hS]; omega), if_neg (by simp only [hS, ecm]; omega), if_neg (by rw [show (23 : Int) = ((23 : Nat) : Int) from rfl, show (24 : Int) = ((24 : Nat) : Int) from rfl, h23, h24]; omega), if_neg (by rw [hS, elen]; omega), if_neg (by rw [hS, elen]; omega)]
      · refine bad _ ?_
        rw [aR_f hp, if_neg (by simp only [hS]; omega), if_neg (by simp only [hS, ecm]; omega), if_neg (by rw [show (23 : Int) = ((23 : Nat) : Int) from rfl, show (24 : Int) = ((24 : Nat) : Int) from rfl, h23, h24]; omega), if_neg (by rw [hS, elen]; omega), if_neg (by rw [hS, elen]; omega)]
      · exact te (by omega) (by assumption) _ m hm' (by first | rw [if_pos ((hS 60).mpr (by omega))] | rw [if_neg (fun q => by have := (hS 60).mp q; omega)])
      · exact ar (by omega) _ m hm' (by first | rw [if_pos ((hS 43).mpr (by omega))] | rw [if_neg (fun q => by have := (hS 43).mp q; omega), if_pos ((hS 45).mpr (by omega))] | rw [if_neg (fun q => by have := (hS 43).mp q; omega), if_neg (fun q => by have := (hS 45).mp q; omega)])
      · exact ar (by omega) _ m hm' (by first | rw [if_pos ((hS 43).mpr (by omega))] | rw [if_neg (fun q => by have := (hS 43).mp q; omega), if_pos ((hS 45).mpr (by omega))] | rw [if_neg (fun q => by have := (hS 43).mp q; omega), if_neg (fun q => by have := (hS 45).mp q; omega)])
      · exact ar (by omega) _ m hm' (by first | rw [if_pos ((hS 43).mpr (by omega))] | rw [if_neg (fun q => by have := (hS 43).mp q; omega), if_pos ((hS 45).mpr (by omega))] | rw [if_neg (fun q => by have := (hS 43).mp q; omega), if_neg (fun q => by have := (hS 45).mp q; omega)])
    | true =>
      have hc : 0 ≤ s 172 31 ∧ s 172 31 ≤ 100000 := by omega
      have one : ∀ (x3' x4' x5' v : Int) (m : Nat), m < M → ¬ lt.length = 5 → isKw T n (kB T n p) 22 = false → isSg T n (kB T n p) 40 = false → (isFa T n (kB T n p) = true ∨ isNu T n (kB T n p) = true) → v = (if isFa T n (kB T n p) = true then kwi (eW T n (kB T n p)) - 24 else 100 + eM T n (kB T n p)) → zC m 1493 [(((172 : Nat) : Int), 0), (v, 0)] s (fun p' => zT (zE 1496) (Pt PX11_reads) m (150, [((172 : Nat) : Int), (lt.length : Int), 1, x3', x4', x5'], p'.1 ++ [], p'.2) (qPrE s0 T n c0 Gt (aR T n p true (a :: lt)))) := fun x3' x4' x5' v m hm' q5 q1 q2 q3 hv => by
        refine puts_qE h hm hc (fun s1 f1 h1 m1 e1 pv po => ?_)
        refine b_X11_reads_150 _ _ _ _ _ s1 ?_
        refine pop1 (a :: lt) m (by simp) (by simp; omega) m1 (fun m2 hm2 => ?_)
        have pl := popZ_len (a :: lt)
        have pl1 := pl.2 (by simp)
        have pl0 : (popZ (a :: lt)).length ≤ lt.length + 1 := pl.1
        refine RI_nextE (c0 := c0) (Gt := Gt) (w := false) (l := popZ (a :: lt)) h1 ?_ (fun q => by rw [q] at pl1; simp at pl1) (by omega) (mo_pop _ m1) (frR_tr f f1) (by omega) (by omega) (by omega) (fun _ => by omega) (emM_put (v := v) (by have em2 := em; rw [aK_one hp q1 q2 q3 (by rw [elen]; omega)] at em2; rw [hv]; exact em2) e1 pv po) (fun s2 R => ?_)
        · rcases q3 with q3 | q3
          · have := hFa.mp q3; exact hne (by omega)
          · have := hNu.mp q3; exact hne (by omega)
        refine b_X11_reads_176 _ _ _ _ _ s2 (fun m3 hm3 => ?_)
        rw [aRt_one hp q1 q2 q3 (by rw [elen]; omega)]
        exact ih m3 (by omega) _ _ _ s2 _ _ _ R
      have opn : ∀ (x3' x4' x5' v : Int) (m : Nat), m < M → ¬ lt.length = 5 → ((x4' ≠ 0 ∧ isKw T n (kB T n p) 22 = true ∧ v = 30) ∨ (x4' = 0 ∧ isKw T n (kB T n p) 22 = false ∧ isSg T n (kB T n p) 40 = true ∧ v = 28)) → zC m 1493 [(((172 : Nat) : Int), 0), (v, 0)] s (fun p' => zT (zE 1496) (Pt PX11_reads) m (102, [((172 : Nat) : Int), (lt.length : Int), 1, x3', x4', x5'], p'.1 ++ [], p'.2) (qPrE s0 T n c0 Gt (aR T n p true (a :: lt)))) := fun x3' x4' x5' v m hm' q5 q => by
        refine puts_qE h hm hc (fun s1 f1 h1 m1 e1 pv po => ?_)
        have hx : w32 ((lt.length : Int) + 1) = ((lt.length + 1 : Nat) : Int) := by rw [w32_id (by omega) (by omega)]; omega
        have hnt : eQ T n (kB T n p) ≠ 1 := by
          rcases q with ⟨-, q, -⟩ | ⟨-, -, q, -⟩
          · have := h22.mp q; exact hne (by omega)
          · have := (hS 40).mp q; exact hne (by omega)
        have st : ∀ (v2 : Int) (nb : Bool), v2 = (if nb = true then 1 else 2) → aR T n p true (a :: lt) = aR T n (kE T n p) true ((nb, false) :: a :: lt) → aK T n p true (a :: lt) = v :: aK T n (kE T n p) true ((nb, false) :: a :: lt) → ∀ m2, m2 < m → zC m2 1482 [(((172 : Nat) : Int), 0)] (zu (zu s1 195 ((w32 ((lt.length : Int) + 1)).toNat) v2) 196 ((w32 ((lt.length : Int) + 1)).toNat) (zst3 0)) (fun p => zT (zE 1496) (Pt PX11_reads) m2 (176, [((172 : Nat) : Int), w32 ((lt.length : Int) + 1), 1, x3', x4', x5'], p.1 ++ [], p.2) (qPrE s0 T n c0 Gt (aR T n _ true (a :: lt)))) := fun v2 nb ev ea ek m2 hm2 => by
          rw [hx, Int.toNat_natCast, show zst3 0 = 0 from by decide]
          have z : ∀ {c j : Nat}, ¬ (195 ≤ c ∧ c ≤ 196) → zu (zu s1 195 (lt.length + 1) v2) 196 (lt.length + 1) 0 c j = s1 c j := fun hc' => by rw [zu_n (by omega), zu_n (by omega)]
          have hmo : mo (zu (zu s1 195 (lt.length + 1) v2) 196 (lt.length + 1) 0) ((nb, false) :: a :: lt) := by
            refine ⟨fun _ => ?_, ?_, mo_out (a :: lt) (fun j hj => ?_) m1⟩
            · show zu (zu s1 195 (lt.length + 1) v2) 196 (lt.length + 1) 0 195 (lt.length + 1) = _
              rw [zu_n (by omega), zu_eq]
              exact ev
            · show zu (zu s1 195 (lt.length + 1) v2) 196 (lt.length + 1) 0 196 (lt.length + 1) = _
              rw [zu_eq]
              rfl
            · have hj : j < lt.length + 1 := hj
              exact ⟨by rw [zu_n (fun q => absurd q.1 (by decide)), zu_n (fun q => (Nat.ne_of_lt hj) q.2)], by rw [zu_n (fun q => (Nat.ne_of_lt hj) q.2), zu_n (fun q => absurd q.1 (by decide))]⟩
          have hl2 : ((nb, false) :: a :: lt).length ≤ 6 := Nat.succ_le_succ (Nat.succ_le_of_lt (Nat.lt_of_le_of_ne (Nat.le_of_succ_le_succ l2) q5))
          have e31 : zu (zu s1 195 (lt.length + 1) v2) 196 (lt.length + 1) 0 172 31 = s1 172 31 := z (by omega)
          refine RI_nextE (c0 := c0) (Gt := Gt) (s1 := zu (zu s1 195 (lt.length + 1) v2) 196 (lt.length + 1) 0) (w := true) (l := (nb, false) :: a :: lt) (mst_out h1 (fun c i hci => z (by omega))) hnt (List.cons_ne_nil _ _) hl2 hmo (frR_tr f (frR_tr f1 (fun c j q3 q4 => z (by omega)))) (by rw [e31]; omega) (by rw [e31]; omega) (by rw [e31]; omega) (fun q => by cases q) (emM_e (emM_put (v := v) (by have em2 := em; rw [ek] at em2; exact em2) e1 pv po) (z (by omega)) (fun j => z (by omega))) (fun s2 R => ?_)
          refine b_X11_reads_176 _ _ _ _ _ s2 (fun m3 hm3 => ?_)
          rw [ea]
          exact ih m3 (by omega) _ _ _ s2 _ _ _ R
        refine b_X11_reads_102 _ _ _ _ _ s1 (fun g m2 hm2 => ?_) (fun g m2 hm2 => ?_)
        · rcases q with ⟨q0, q, -⟩ | ⟨-, q1, q, rfl⟩
          · exact absurd g q0
          · exact st 2 false rfl (aRt_open hp q1 q (by rw [elen]; exact fun q6 => q5 (Nat.succ.inj q6))) (aK_open hp q1 q (by rw [elen]; exact fun q6 => q5 (Nat.succ.inj q6))) m2 hm2
        · rcases q with ⟨-, q, rfl⟩ | ⟨q0, -⟩
          · exact st 1 true rfl (aRt_not hp q (by rw [elen]; exact fun q6 => q5 (Nat.succ.inj q6))) (aK_not hp q (by rw [elen]; exact fun q6 => q5 (Nat.succ.inj q6))) m2 hm2
          · exact absurd q0 g
      have bad : isFa T n (kB T n p) = false ∧ isKw T n (kB T n p) 22 = false ∧ isSg T n (kB T n p) 40 = false ∧ isNu T n (kB T n p) = false → qPrE s0 T n c0 Gt (aR T n p true (a :: lt)) ([(0, 0)], zu s 172 9 (w32 (1 + w32 (16 * s 172 5)))) := fun q => reads_badE (lo := em.2.1) (k' := 1) (by decide) h f (aRt_bad hp q)
      have many : lt.length = 5 → ¬ (isFa T n (kB T n p) = false ∧ isKw T n (kB T n p) 22 = false ∧ isSg T n (kB T n p) 40 = false ∧ isNu T n (kB T n p) = false) → qPrE s0 T n c0 Gt (aR T n p true (a :: lt)) ([(0, 0)], zu s 172 9 (w32 (5 + w32 (16 * s 172 5)))) := fun q5 q => reads_badE (lo := em.2.1) (k' := 5) (by decide) h f (aRt_many hp q (by rw [elen, q5]))
      have nf : ∀ {b : Bool} {P : Prop}, (b = true ↔ P) → ¬ P → b = false := fun hb hq => Bool.eq_false_iff.mpr (fun q => hq (hb.mp q))
      refine b_X11_reads_11 _ _ _ _ _ s (fun g1 => absurd g1 (by decide)) (fun g1 => absurd g1 (by decide)) (fun g1 => absurd g1 (by decide)) (fun g1 => absurd g1 (by decide)) (fun g1 => absurd g1 (by decide)) (fun g1 => absurd g1 (by decide)) (fun g1 => absurd g1 (by decide)) (fun g1 => absurd g1 (by decide)) (fun g1 => absurd g1 (by decide)) (fun g1 => absurd g1 (by decide)) (fun g1 => absurd g1 (by decide)) (fun g1 => absurd g1 (by decide)) (fun g1 => absurd g1 (by decide)) (fun g1 => absurd g1 (by decide)) (fun g1 => absurd g1 (by decide)) (fun g1 => absurd g1 (by decide)) (fun g1 => absurd g1 (by decide)) (fun g1 => absurd g1 (by decide)) (fun g1 => absurd g1 (by decide)) (fun g1 => absurd g1 (by decide)) (fun g1 => absurd g1 (by decide)) (fun g1 g231 g232 g233 g234 g238 g240 => ?_) (fun g1 g231 g232 g233 g234 g245 g247 g248 m hm' => ?_) (fun g1 g231 g232 g233 g234 g245 g247 g248 => ?_) (fun g1 g253 g254 g255 g256 g260 g262 g263 m hm' => ?_) (fun g1 g253 g254 g255 g256 g260 g262 g263 => ?_) (fun g1 g253 g254 g255 g256 g269 g271 g272 m hm' => ?_) (fun g1 g253 g254 g255 g256 g269 g271 g272 => ?_) (fun g1 g277 g278 g279 g283 g285 g286 m hm' => ?_) (fun g1 g277 g278 g279 g283 g285 g286 => ?_) (fun g1 g277 g278 g279 g292 g294 g295 m hm' => ?_) (fun g1 g277 g278 g279 g292 g294 g295 => ?_) (fun g1 g300 g301 g305 g307 g308 m hm' => ?_) (fun g1 g300 g301 g305 g307 g308 => ?_) (fun g1 g300 g301 g314 g316 g317 m hm' => ?_) (fun g1 g300 g301 g314 g316 g317 => ?_) (fun g1 g322 g326 g327 g328 m hm' => ?_) (fun g1 g322 g326 g327 g328 => ?_) (fun g1 g322 g326 g327 => ?_) (fun g1 g322 g332 g333 => ?_) (fun g1 g322 g335 g336 g337 m hm' => ?_) (fun g1 g322 g335 g336 g337 => ?_)
      · exact bad ⟨(nf hFa (by omega)), (nf h22 (by omega)), (nf (hS 40) (by omega)), (nf hNu (by omega))⟩
      · exact opn _ _ _ _ m hm' (by omega) (Or.inl ⟨by decide, h22.mpr (by omega), rfl⟩)
      · refine many (by omega) (fun q => ?_)
        have a1 : ¬ (s 172 6 = 1 ∧ (zcmpL (s 172 7) 164222 = 0 ∨ zcmpL (s 172 7) 205811839 = 0 ∨ zcmpL (s 172 7) 149099 = 0)) := fun c => Bool.eq_false_iff.mp q.1 (hFa.mpr c)
        have a2 : ¬ (s 172 6 = 1 ∧ zcmpL (s 172 7) 10631 = 0) := fun c => Bool.eq_false_iff.mp q.2.1 (h22.mpr c)
        have a3 : ¬ (s 172 6 = 3 ∧ s 173 (s 172 5).toNat = 40) := fun c => Bool.eq_false_iff.mp q.2.2.1 ((hS 40).mpr c)
        have a4 : ¬ s 172 6 = 2 := fun c => Bool.eq_false_iff.mp q.2.2.2 (hNu.mpr c)
        omega
      · exact one _ _ _ _ m hm' (by omega) (nf h22 (by omega)) (nf (hS 40) (by omega)) (Or.inl (hFa.mpr (by omega))) (by rw [if_pos (hFa.mpr (by omega))]; first | exact vfa 25 (k25.mpr ⟨by omega, by omega⟩) rfl | exact vfa 26 (k26.mpr ⟨by omega, by omega⟩) rfl | exact vfa 27 (k27.mpr ⟨by omega, by omega⟩) rfl)
      · refine many (by omega) (fun q => ?_)
        have a1 : ¬ (s 172 6 = 1 ∧ (zcmpL (s 172 7) 164222 = 0 ∨ zcmpL (s 172 7) 205811839 = 0 ∨ zcmpL (s 172 7) 149099 = 0)) := fun c => Bool.eq_false_iff.mp q.1 (hFa.mpr c)
        have a2 : ¬ (s 172 6 = 1 ∧ zcmpL (s 172 7) 10631 = 0) := fun c => Bool.eq_false_iff.mp q.2.1 (h22.mpr c)
        have a3 : ¬ (s 172 6 = 3 ∧ s 173 (s 172 5).toNat = 40) := fun c => Bool.eq_false_iff.mp q.2.2.1 ((hS 40).mpr c)
        have a4 : ¬ s 172 6 = 2 := fun c => Bool.eq_false_iff.mp q.2.2.2 (hNu.mpr c)
        omega
      · exact opn _ _ _ _ m hm' (by omega) (Or.inl ⟨by decide, h22.mpr (by omega), rfl⟩)
      · refine many (by omega) (fun q => ?_)
        have a1 : ¬ (s 172 6 = 1 ∧ (zcmpL (s 172 7) 164222 = 0 ∨ zcmpL (s 172 7) 205811839 = 0 ∨ zcmpL (s 172 7) 149099 = 0)) := fun c => Bool.eq_false_iff.mp q.1 (hFa.mpr c)
        have a2 : ¬ (s 172 6 = 1 ∧ zcmpL (s 172 7) 10631 = 0) := fun c => Bool.eq_false_iff.mp q.2.1 (h22.mpr c)
        have a3 : ¬ (s 172 6 = 3 ∧ s 173 (s 172 5).toNat = 40) := fun c => Bool.eq_false_iff.mp q.2.2.1 ((hS 40).mpr c)
        have a4 : ¬ s 172 6 = 2 := fun c => Bool.eq_false_iff.mp q.2.2.2 (hNu.mpr c)
        omega
      · exact one _ _ _ _ m hm' (by omega) (nf h22 (by omega)) (nf (hS 40) (by omega)) (Or.inl (hFa.mpr (by omega))) (by rw [if_pos (hFa.mpr (by omega))]; first | exact vfa 25 (k25.mpr ⟨by omega, by omega⟩) rfl | exact vfa 26 (k26.mpr ⟨by omega, by omega⟩) rfl | exact vfa 27 (k27.mpr ⟨by omega, by omega⟩) rfl)
      · refine many (by omega) (fun q => ?_)
        have a1 : ¬ (s 172 6 = 1 ∧ (zcmpL (s 172 7) 164222 = 0 ∨ zcmpL (s 172 7) 205811839 = 0 ∨ zcmpL (s 172 7) 149099 = 0)) := fun c => Bool.eq_false_iff.mp q.1 (hFa.mpr c)
        have a2 : ¬ (s 172 6 = 1 ∧ zcmpL (s 172 7) 10631 = 0) := fun c => Bool.eq_false_iff.mp q.2.1 (h22.mpr c)
        have a3 : ¬ (s 172 6 = 3 ∧ s 173 (s 172 5).toNat = 40) := fun c => Bool.eq_false_iff.mp q.2.2.1 ((hS 40).mpr c)
        have a4 : ¬ s 172 6 = 2 := fun c => Bool.eq_false_iff.mp q.2.2.2 (hNu.mpr c)
        omega
      · exact opn _ _ _ _ m hm' (by omega) (Or.inl ⟨by decide, h22.mpr (by omega), rfl⟩)
      · refine many (by omega) (fun q => ?_)
        have a1 : ¬ (s 172 6 = 1 ∧ (zcmpL (s 172 7) 164222 = 0 ∨ zcmpL (s 172 7) 205811839 = 0 ∨ zcmpL (s 172 7) 149099 = 0)) := fun c => Bool.eq_false_iff.mp q.1 (hFa.mpr c)
        have a2 : ¬ (s 172 6 = 1 ∧ zcmpL (s 172 7) 10631 = 0) := fun c => Bool.eq_false_iff.mp q.2.1 (h22.mpr c)
        have a3 : ¬ (s 172 6 = 3 ∧ s 173 (s 172 5).toNat = 40) := fun c => Bool.eq_false_iff.mp q.2.2.1 ((hS 40).mpr c)
        have a4 : ¬ s 172 6 = 2 := fun c => Bool.eq_false_iff.mp q.2.2.2 (hNu.mpr c)
        omega
      · exact one _ _ _ _ m hm' (by omega) (nf h22 (by omega)) (nf (hS 40) (by omega)) (Or.inl (hFa.mpr (by omega))) (by rw [if_pos (hFa.mpr (by omega))]; first | exact vfa 25 (k25.mpr ⟨by omega, by omega⟩) rfl | exact vfa 26 (k26.mpr ⟨by omega, by omega⟩) rfl | exact vfa 27 (k27.mpr ⟨by omega, by omega⟩) rfl)
      · refine many (by omega) (fun q => ?_)
        have a1 : ¬ (s 172 6 = 1 ∧ (zcmpL (s 172 7) 164222 = 0 ∨ zcmpL (s 172 7) 205811839 = 0 ∨ zcmpL (s 172 7) 149099 = 0)) := fun c => Bool.eq_false_iff.mp q.1 (hFa.mpr c)
        have a2 : ¬ (s 172 6 = 1 ∧ zcmpL (s 172 7) 10631 = 0) := fun c => Bool.eq_false_iff.mp q.2.1 (h22.mpr c)
        have a3 : ¬ (s 172 6 = 3 ∧ s 173 (s 172 5).toNat = 40) := fun c => Bool.eq_false_iff.mp q.2.2.1 ((hS 40).mpr c)
        have a4 : ¬ s 172 6 = 2 := fun c => Bool.eq_false_iff.mp q.2.2.2 (hNu.mpr c)
        omega
      · exact opn _ _ _ _ m hm' (by omega) (Or.inl ⟨by decide, h22.mpr (by omega), rfl⟩)
      · refine many (by omega) (fun q => ?_)
        have a1 : ¬ (s 172 6 = 1 ∧ (zcmpL (s 172 7) 164222 = 0 ∨ zcmpL (s 172 7) 205811839 = 0 ∨ zcmpL (s 172 7) 149099 = 0)) := fun c => Bool.eq_false_iff.mp q.1 (hFa.mpr c)
        have a2 : ¬ (s 172 6 = 1 ∧ zcmpL (s 172 7) 10631 = 0) := fun c => Bool.eq_false_iff.mp q.2.1 (h22.mpr c)
        have a3 : ¬ (s 172 6 = 3 ∧ s 173 (s 172 5).toNat = 40) := fun c => Bool.eq_false_iff.mp q.2.2.1 ((hS 40).mpr c)
        have a4 : ¬ s 172 6 = 2 := fun c => Bool.eq_false_iff.mp q.2.2.2 (hNu.mpr c)
        omega
      · exact one _ _ _ _ m hm' (by omega) (nf h22 (by omega)) (nf (hS 40) (by omega)) (Or.inr (hNu.mpr (by omega))) (by rw [if_neg (fun q => by have := hFa.mp q; omega)]; exact vnu (hNu.mpr (by omega)))
      · refine many (by omega) (fun q => ?_)
        have a1 : ¬ (s 172 6 = 1 ∧ (zcmpL (s 172 7) 164222 = 0 ∨ zcmpL (s 172 7) 205811839 = 0 ∨ zcmpL (s 172 7) 149099 = 0)) := fun c => Bool.eq_false_iff.mp q.1 (hFa.mpr c)
        have a2 : ¬ (s 172 6 = 1 ∧ zcmpL (s 172 7) 10631 = 0) := fun c => Bool.eq_false_iff.mp q.2.1 (h22.mpr c)
        have a3 : ¬ (s 172 6 = 3 ∧ s 173 (s 172 5).toNat = 40) := fun c => Bool.eq_false_iff.mp q.2.2.1 ((hS 40).mpr c)
        have a4 : ¬ s 172 6 = 2 := fun c => Bool.eq_false_iff.mp q.2.2.2 (hNu.mpr c)
        omega
      · exact bad ⟨(nf hFa (by omega)), (nf h22 (by omega)), (nf (hS 40) (by omega)), (nf hNu (by omega))⟩
      · exact bad ⟨(nf hFa (by omega)), (nf h22 (by omega)), (nf (hS 40) (by omega)), (nf hNu (by omega))⟩
      · exact opn _ _ _ _ m hm' (by omega) (Or.inr ⟨rfl, (nf h22 (by omega)), (hS 40).mpr (by omega), rfl⟩)
      · refine many (by omega) (fun q => ?_)
        have a1 : ¬ (s 172 6 = 1 ∧ (zcmpL (s 172 7) 164222 = 0 ∨ zcmpL (s 172 7) 205811839 = 0 ∨ zcmpL (s 172 7) 149099 = 0)) := fun c => Bool.eq_false_iff.mp q.1 (hFa.mpr c)
        have a2 : ¬ (s 172 6 = 1 ∧ zcmpL (s 172 7) 10631 = 0) := fun c => Bool.eq_false_iff.mp q.2.1 (h22.mpr c)
        have a3 : ¬ (s 172 6 = 3 ∧ s 173 (s 172 5).toNat = 40) := fun c => Bool.eq_false_iff.mp q.2.2.1 ((hS 40).mpr c)
        have a4 : ¬ s 172 6 = 2 := fun c => Bool.eq_false_iff.mp q.2.2.2 (hNu.mpr c)
        omega
end Zme
