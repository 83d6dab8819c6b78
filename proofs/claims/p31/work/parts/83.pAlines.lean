/-! what the NIGHTS say, held on both sides -/
def nlO (D : ZD) (r : Int × Int × Int × Int) : Prop := (r.1 = 0 ∨ r.1 = 1 → 0 ≤ r.2.1 ∧ r.2.1 < ((cnt D 1 : Nat) : Int)) ∧ (r.1 = 2 ∨ r.1 = 3 → 0 ≤ r.2.1 ∧ r.2.1 < ((cnt D 3 : Nat) : Int) ∧ plI D r.2.2.1) ∧ (r.1 = 3 → 0 ≤ r.2.2.2 ∧ r.2.2.2 < ((cnt D 2 : Nat) : Int))
section Zln
variable {N t n : Nat} {s s' : Zs} {D : ZD} {S : ZS} {T : Nat → Int} {x : PS} {K : Nat → Option ZS} {L : NL}
theorem vFl_in (h : (gFl T n D x).1 = 0) : 0 ≤ vFl T n D x ∧ vFl T n D x < ((cnt D 1 : Nat) : Int) := by
  have b := fxl_bd (h := vTo T n (dN D 0) x) (f := vE T n (gTo T n (dN D 0) x)) (dC D 10) (dC D 11)
  have e : vFl T n D x = fxI.fxl (vTo T n (dN D 0) x) (vE T n (gTo T n (dN D 0) x)) (dC D 10) (dC D 11) := rfl
  have c : vFl T n D x ≠ -1 := fun c => by
    unfold gFl at h
    rw [if_pos c] at h
    by_cases q : (gNh T n (gTo T n (dN D 0) x)).1 = 0
    · exact gF_ne (by decide) q h
    · rw [gF_nz q] at h
      exact q h
  rw [← e] at b
  have l : cnt D 1 = (dC D 10).length := if_pos rfl
  rw [l]
  omega
theorem vTo_in {ws : List (List Int)} (h : (gTo T n ws x).1 = 0) : 0 ≤ vTo T n ws x ∧ vTo T n ws x < ((ws.length : Nat) : Int) := by
  have b := vTo_bd (T := T) (n := n) ws x
  obtain ⟨g1, g2⟩ := gTo_0 h
  have e : vTo T n ws x = ixW (eW T n (kB T n x.2)) ws := if_pos g1
  rw [← e] at g2
  omega
theorem pNR_O (hw : wD D) {k : Int} (h1 : 17 ≤ k) (h2 : k ≤ 21) (h : (pNR T n D k x).1.1 = 0) : nlO D (pNR T n D k x).2 := by
  have l3 : cnt D 3 = (dN D 3).length := if_neg (by decide)
  have l2 : cnt D 2 = (dN D 2).length := if_neg (by decide)
  by_cases c : k ≤ 18
  · rw [pNR_a c] at h ⊢
    have z := vFl_in (gS_z h)
    refine ⟨fun _ => z, fun q => ?_, fun q => ?_⟩
    · have q : k - 17 = 2 ∨ k - 17 = 3 := q
      omega
    · have q : k - 17 = 3 := q
      omega
  · by_cases c2 : k = 19
    · subst c2
      rw [pNR_b] at h ⊢
      have z := gS_z h
      have v := vTo_in (gPl_z z)
      refine ⟨fun q => ?_, fun _ => ⟨v.1, by rw [l3]; exact v.2, vPl_ok hw z⟩, fun q => ?_⟩
      · have q : (2 : Int) = 0 ∨ (2 : Int) = 1 := q
        omega
      · have q : (2 : Int) = 3 := q
        omega
    · by_cases c3 : k = 20
      · subst c3
        rw [pNR_c] at h ⊢
        have z := gS_z h
        have v2 := vTo_in (gPl_z z)
        have v2 := gPl_z z
        have w2 := vTo_in v2
        have w3 := vTo_in (gTo_z v2)
        refine ⟨fun q => ?_, fun _ => ⟨w3.1, by rw [l3]; exact w3.2, vPl_ok hw z⟩, fun _ => ⟨w2.1, by rw [l2]; exact w2.2⟩⟩
        have q : (3 : Int) = 0 ∨ (3 : Int) = 1 := q
        omega
      · have c4 : k = 21 := by omega
        subst c4
        rw [pNR_d]
        refine ⟨fun q => ?_, fun q => ?_, fun q => ?_⟩
        · have q : (4 : Int) = 0 ∨ (4 : Int) = 1 := q
          omega
        · have q : (4 : Int) = 2 ∨ (4 : Int) = 3 := q
          omega
        · have q : (4 : Int) = 3 := q
          omega
theorem pNL_O (hw : wD D) (hL : ∀ r, r ∈ L → nlO D r) : ∀ r, r ∈ (pNL T n D x L).2 → nlO D r := by
  by_cases a : kwL T n x < 17 ∨ 21 < kwL T n x
  · rw [pNL_1 a]
    exact hL
  · by_cases b : 40 ≤ L.length
    · rw [pNL_2 (by omega) (by omega) b]
      exact hL
    · rw [pNL_3 (by omega) (by omega) (by omega)]
      intro r hr
      have hr : r ∈ (if (pNR T n D (kwL T n x) (gNx T n x)).1.1 = 0 then L ++ [(pNR T n D (kwL T n x) (gNx T n x)).2] else L) := hr
      by_cases c : (pNR T n D (kwL T n x) (gNx T n x)).1.1 = 0
      · rw [if_pos c] at hr
        rcases List.mem_append.mp hr with q | q
        · exact hL r q
        · rw [List.mem_singleton.mp q]
          exact pNR_O hw (by omega) (by omega) c
      · rw [if_neg c] at hr
        exact hL r hr
theorem pNA_O (hw : wD D) : ∀ (f : Nat) (x : PS) (L : NL), (∀ r, r ∈ L → nlO D r) → ∀ r, r ∈ (pNA T n D f x L).2 → nlO D r
  | 0, _, _, h => h
  | f + 1, x, L, h => by
    have e : pNA T n D (f + 1) x L = if x.1 = 0 ∧ eQ T n (kB T n x.2) ≠ 1 then pNA T n D f (pNL T n D x L).1 (pNL T n D x L).2 else (x, L) := rfl
    rw [e]
    by_cases c : x.1 = 0 ∧ eQ T n (kB T n x.2) ≠ 1
    · rw [if_pos c]
      exact pNA_O hw f _ _ (pNL_O hw h)
    · rw [if_neg c]
      exact h
theorem linC_mv {c c' : Nat} (h : linC s c L) (e : ∀ j, j < 160 → s' c' j = s c j) : linC s' c' L := by
  refine ⟨h.1, fun i r hr => ?_⟩
  have hi : i < L.length := (List.getElem?_eq_some_iff.mp hr).1
  have h40 := h.1
  obtain ⟨r1, r2, r3, r4, r5, r6⟩ := h.2 i r hr
  exact ⟨by rw [e _ (by omega)]; exact r1, r2, r3, fun q => by rw [e _ (by omega)]; exact r4 q, fun q => by rw [e _ (by omega)]; exact r5 q, fun q => by rw [e _ (by omega), e _ (by omega)]; exact r6 q⟩
theorem linM_mv {b b' : Nat} (h : linM s b L) (e : ∀ c j, 208 ≤ c → c ≤ 211 → j < 40 → s' c (b' + j) = s c (b + j)) : linM s' b' L := by
  refine ⟨h.1, fun i r hr => ?_⟩
  have hi : i < L.length := (List.getElem?_eq_some_iff.mp hr).1
  have h40 := h.1
  obtain ⟨r1, r2, r3, r4, r5, r6⟩ := h.2 i r hr
  exact ⟨by rw [e _ _ (by omega) (by omega) (by omega)]; exact r1, r2, r3, fun q => by rw [e _ _ (by omega) (by omega) (by omega)]; exact r4 q, fun q => by rw [e _ _ (by omega) (by omega) (by omega)]; exact r5 q, fun q => by rw [e _ _ (by omega) (by omega) (by omega)]; exact r6 q⟩
/-- the lines L: of the class in the cells c and c + 1, of the model the i-th -/
def lnX (s : Zs) (D : ZD) (c i : Nat) (L : NL) : Prop := s c 1 = ((L.length : Nat) : Int) ∧ linC s (c + 1) L ∧ s 207 i = ((L.length : Nat) : Int) ∧ linM s (40 * i) L ∧ ∀ r, r ∈ L → nlO D r
def lnR (s : Zs) (D : ZD) (K : Nat → Option ZS) : Prop := (∃ L, lnX s D 85 0 L) ∧ ∀ m, m < 4 → (K m).isSome = true → ∃ L, lnX s D (151 + 3 * m) (1 + m) L
def lnC (c j : Nat) : Prop := ((c = 85 ∨ c = 151 ∨ c = 154 ∨ c = 157 ∨ c = 160) ∧ j = 1) ∨ ((c = 86 ∨ c = 152 ∨ c = 155 ∨ c = 158 ∨ c = 161) ∧ j < 160) ∨ (c = 207 ∧ j < 5) ∨ ((c = 208 ∨ c = 209 ∨ c = 210 ∨ c = 211) ∧ j < 200)
theorem lnX_mv {c c' i i' : Nat} (h : lnX s D c i L) (e1 : s' c' 1 = s c 1) (e2 : ∀ j, j < 160 → s' (c' + 1) j = s (c + 1) j) (e3 : s' 207 i' = s 207 i) (e4 : ∀ d j, 208 ≤ d → d ≤ 211 → j < 40 → s' d (40 * i' + j) = s d (40 * i + j)) : lnX s' D c' i' L := ⟨e1.trans h.1, linC_mv h.2.1 e2, e3.trans h.2.2.1, linM_mv h.2.2.2.1 e4, h.2.2.2.2⟩
theorem ln_e (h : lnR s D K) (e : ∀ c j, lnC c j → s' c j = s c j) : lnR s' D K := by
  obtain ⟨⟨L, h1⟩, h2⟩ := h
  refine ⟨⟨L, lnX_mv h1 (e _ _ (by unfold lnC; omega)) (fun j hj => e _ _ (by unfold lnC; omega)) (e _ _ (by unfold lnC; omega)) (fun d j a b c => e _ _ (by unfold lnC; omega))⟩, fun m hm hK => ?_⟩
  obtain ⟨L2, h3⟩ := h2 m hm hK
  exact ⟨L2, lnX_mv h3 (e _ _ (by unfold lnC; omega)) (fun j hj => e _ _ (by unfold lnC; omega)) (e _ _ (by unfold lnC; omega)) (fun d j a b c => e _ _ (by unfold lnC; omega))⟩
theorem ln_new (h : lnX s D 85 0 L) (hk : ∀ m, m < 4 → K m = none) : lnR s D K := ⟨⟨L, h⟩, fun m hm q => by rw [hk m hm] at q; exact absurd q (by decide)⟩
/-- NIGHTS told anew -/
theorem ln_nights (h : lnR s D K) (h1 : lnX s' D 85 0 L) (e1 : ∀ c j, 151 ≤ c → c ≤ 162 → s' c j = s c j) (e2 : ∀ j, 1 ≤ j → j < 5 → s' 207 j = s 207 j) (e3 : ∀ c j, 208 ≤ c → c ≤ 211 → 40 ≤ j → j < 200 → s' c j = s c j) : lnR s' D K := by
  refine ⟨⟨L, h1⟩, fun m hm hK => ?_⟩
  obtain ⟨L2, h3⟩ := h.2 m hm hK
  exact ⟨L2, lnX_mv h3 (e1 _ _ (by omega) (by omega)) (fun j hj => e1 _ _ (by omega) (by omega)) (e2 _ (by omega) (by omega)) (fun d j a b c => e3 _ _ a b (by omega) (by omega))⟩
/-! marks -/
theorem sd_len : (sdcL.all fun d => decide (zq_len (d + 1) = 160)) = true := by decide +kernel
theorem said_el {d e : Nat} (hd : isSd d = true) (he : isSd e = true) (hde : d + 2 < e ∨ e + 2 < d) : zC N 642 [((d : Int), 0), ((e : Int), 0)] s (fun r => r.1 = [] ∧ (r.2 d 1 = s e 1 ∧ ∀ j, j < 160 → r.2 (d + 1) j = s (e + 1) j) ∧ ∀ c j, ¬ (d ≤ c ∧ c ≤ d + 2) → r.2 c j = s c j) := by
  have l : zq_len (d + 1) = 160 := of_decide_eq_true (List.all_eq_true.mp sd_len d (List.contains_iff_mem.mp hd))
  refine c_X5_copy (b_X5_copy_0 s hd he (fun m _ => ?_))
  refine c_X5_tellG (b_X5_tellG_0 _ s hd he ?_)
  rw [l]
  have W : ∀ (s1 s9 : Zs) (k2 : Nat) (b : Int), s1 = zu (zcpy s (e + 1) (d + 1) (160 : Int).toNat) d 1 (s e 1) → s9 = zu (zcpy (zu s1 d 2 (s1 e 2)) (e + 2) (d + 2) k2) d 4 b → (([], s9) : Zr).1 = [] ∧ ((([], s9) : Zr).2 d 1 = s e 1 ∧ ∀ j, j < 160 → (([], s9) : Zr).2 (d + 1) j = s (e + 1) j) ∧ ∀ c j, ¬ (d ≤ c ∧ c ≤ d + 2) → (([], s9) : Zr).2 c j = s c j := fun s1 s9 k2 b e1 e9 => by
    have f1 : ∀ c j, c ≠ d + 1 → ¬ (c = d ∧ j = 1) → s1 c j = s c j := fun c j a b => by
      rw [e1, zu_n b]
      unfold zcpy
      rw [if_neg a]
    have f9 : ∀ c j, c ≠ d + 2 → ¬ (c = d ∧ (j = 2 ∨ j = 4)) → s9 c j = s1 c j := fun c j a b => by
      rw [e9, zu_n (by omega)]
      unfold zcpy
      rw [if_neg a, zu_n (by omega)]
    refine ⟨rfl, ⟨?_, fun j hj => ?_⟩, fun c j hc => ?_⟩
    · show s9 d 1 = _
      rw [f9 _ _ (by omega) (by omega), e1, zu_eq]
    · show s9 (d + 1) j = _
      rw [f9 _ _ (by omega) (by omega), e1, zu_n (by omega)]
      unfold zcpy
      rw [if_pos rfl, if_pos (show j < (160 : Int).toNat from hj)]
    · show s9 c j = _
      rw [f9 _ _ (by omega) (by omega), f1 _ _ (by omega) (by omega)]
  exact b_X5_copy_12 _ hd he (W _ _ _ _ rfl rfl)
def mkLc (K : Nat → Option ZS) (x bk : Int) (s s' : Zs) : Prop := (¬ canM K x bk → s' = s) ∧ (canM K x bk → (bk = 0 → (s' (151 + 3 * x.toNat) 1 = s 85 1 ∧ ∀ j, j < 160 → s' (152 + 3 * x.toNat) j = s 86 j) ∧ (∀ c j, 85 ≤ c → c ≤ 87 → s' c j = s c j) ∧ ∀ m c j, m < 4 → m ≠ x.toNat → 151 + 3 * m ≤ c → c ≤ 153 + 3 * m → s' c j = s c j) ∧ (bk ≠ 0 → (s' 85 1 = s (151 + 3 * x.toNat) 1 ∧ ∀ j, j < 160 → s' 86 j = s (152 + 3 * x.toNat) j) ∧ ∀ c j, 151 ≤ c → c ≤ 162 → s' c j = s c j))
theorem mark_cl (ht : t = 7 ∨ t = 43) (hK : mkC s D K) {x bk : Int} : zC N 1302 [(((0 : Nat) : Int), 0), (x, 0), (bk, 0)] s (fun r => mkLc K x bk s r.2) := by
  obtain ⟨⟨L, l1, l2, l3⟩, -⟩ := hK
  have no : ¬ canM K x bk → mkLc K x bk s s := fun h => ⟨fun _ => rfl, fun q => absurd q h⟩
  refine c_X10_mark (b_X10_mark_0 _ _ s ht (fun g => no (fun q => by have := q.1; omega)) (fun g g2 g3 g4 m _ => ?_) (fun g g2 g3 g4 => no (fun q => ?_)) (fun g g2 g3 m _ => ?_) (fun g g2 => no (fun q => by have := q.2.1; omega)))
  all_goals obtain ⟨k, rfl⟩ := Int.eq_ofNat_of_zero_le g
  · have hk : k < 4 := by omega
    have z := mk_1 hk
    rw [l2] at g4
    have tb : L.testBit k = true := by
      cases q : L.testBit k with
      | true => rfl
      | false => exact absurd ((zbit0 (by omega) (by omega)).mpr (by rw [q]; decide)) g4
    have ks : (K k).isSome = true := (l3 k hk).symm.trans tb
    rw [Int.toNat_natCast, z.1]
    refine zC_q (copy_ok ht (b := 79) rfl z.2.2.1 (by omega)) (fun r hr => ?_)
    obtain ⟨r1, s1⟩ := r
    obtain ⟨e, f1, -⟩ := hr
    have e : r1 = [] := e
    subst e
    have f1 : ∀ c j, ¬ (79 ≤ c ∧ c ≤ 81) → s1 c j = s c j := fun c j hc => f1 c j (by omega)
    refine b_X10_mark_81 _ _ s1 ht (fun m2 _ => ?_)
    rw [Int.toNat_natCast, z.2.1]
    refine zC_q (said_el (d := 85) rfl z.2.2.2 (by omega)) (fun r hr => ?_)
    obtain ⟨r1, s2⟩ := r
    obtain ⟨e, ⟨g5, g6⟩, f2⟩ := hr
    have e : r1 = [] := e
    subst e
    have g5 : s2 85 1 = s1 (151 + 3 * k) 1 := g5
    have g6 : ∀ j, j < 160 → s2 86 j = s1 (151 + 3 * k + 1) j := g6
    have f2 : ∀ c j, ¬ (85 ≤ c ∧ c ≤ 87) → s2 c j = s1 c j := f2
    refine b_X10_mark_94 _ _ s2 ht (fun m3 _ => ?_)
    refine c_X1_clear (b_X1_clear_0 s2 ?_)
    have W : ∀ s9 : Zs, s9 = zu s2 88 0 0 → mkLc K ((k : Nat) : Int) bk s s9 := fun s9 e9 => by
      have f9 : ∀ c j, c ≠ 88 → s9 c j = s2 c j := fun c j a => by rw [e9, zu_n (fun q => a q.1)]
      refine ⟨fun q => absurd ⟨g, g2, fun _ => ks⟩ q, fun _ => ⟨fun q => absurd q g3, fun _ => ⟨⟨?_, fun j hj => ?_⟩, fun c j a b => ?_⟩⟩⟩
      · rw [Int.toNat_natCast, f9 _ _ (by omega), g5, f1 _ _ (by omega)]
      · rw [Int.toNat_natCast, f9 _ _ (by omega), g6 j hj, f1 _ _ (by omega), show 151 + 3 * k + 1 = 152 + 3 * k from by omega]
      · rw [f9 _ _ (by omega), f2 _ _ (by omega), f1 _ _ (by omega)]
    exact b_X10_mark_101 _ _ _ ht (W _ rfl)
  · have hk : k < 4 := by omega
    have ks : (K k).isSome = true := q.2.2 g3
    rw [l2] at g4
    exact (zbit0 (by omega) (by omega)).mp g4 ((l3 k hk).trans ks)
  · have hk : k < 4 := by omega
    have z := mk_1 hk
    rw [Int.toNat_natCast, z.1]
    refine zC_q (copy_ok ht (d := 79) z.2.2.1 rfl (by omega)) (fun r hr => ?_)
    obtain ⟨r1, s1⟩ := r
    obtain ⟨e, f1, -⟩ := hr
    have e : r1 = [] := e
    subst e
    have f1 : ∀ c j, ¬ (138 + 3 * k ≤ c ∧ c ≤ 138 + 3 * k + 2) → s1 c j = s c j := f1
    refine b_X10_mark_28 _ _ s1 ht (fun m2 _ => ?_)
    rw [Int.toNat_natCast, z.2.1]
    refine zC_q (said_el (e := 85) z.2.2.2 rfl (by omega)) (fun r hr => ?_)
    obtain ⟨r1, s2⟩ := r
    obtain ⟨e, ⟨g5, g6⟩, f2⟩ := hr
    have e : r1 = [] := e
    subst e
    have g5 : s2 (151 + 3 * k) 1 = s1 85 1 := g5
    have g6 : ∀ j, j < 160 → s2 (151 + 3 * k + 1) j = s1 86 j := g6
    have f2 : ∀ c j, ¬ (151 + 3 * k ≤ c ∧ c ≤ 151 + 3 * k + 2) → s2 c j = s1 c j := f2
    have W : ∀ s9 : Zs, s9 = zu s2 0 11 (zor (s2 0 11) (zshl 1 ((k : Nat) : Int))) → mkLc K ((k : Nat) : Int) bk s s9 := fun s9 e9 => by
      have f9 : ∀ c j, c ≠ 0 → s9 c j = s2 c j := fun c j a => by rw [e9, zu_n (fun q => a q.1)]
      refine ⟨fun q => absurd ⟨g, g2, fun q2 => absurd g3 q2⟩ q, fun _ => ⟨fun _ => ⟨⟨?_, fun j hj => ?_⟩, fun c j a b => ?_, fun m c j hm hn a b => ?_⟩, fun q => absurd g3 q⟩⟩
      · rw [Int.toNat_natCast, f9 _ _ (by omega), g5, f1 _ _ (by omega)]
      · rw [Int.toNat_natCast, f9 _ _ (by omega), show 152 + 3 * k = 151 + 3 * k + 1 from by omega, g6 j hj, f1 _ _ (by omega)]
      · rw [f9 _ _ (by omega), f2 _ _ (by omega), f1 _ _ (by omega)]
      · rw [Int.toNat_natCast] at hn
        rw [f9 _ _ (by omega), f2 _ _ (by omega), f1 _ _ (by omega)]
    exact b_X10_mark_41 _ _ s2 ht (W _ rfl)
/-- lines laid from one place to another -/
def layQ (x y : Nat) (s s' : Zs) : Prop := s' 207 y = s 207 x ∧ (∀ j, j ≠ y → s' 207 j = s 207 j) ∧ (∀ c j, 208 ≤ c → c ≤ 211 → j < 40 → s' c (40 * y + j) = s c (40 * x + j)) ∧ ∀ c j, 208 ≤ c → c ≤ 211 → ¬ (40 * y ≤ j ∧ j < 40 * y + 40) → s' c j = s c j
theorem layL_el {x y : Nat} (hx : x < 6) (hy : y < 6) (hxy : x ≠ y) : zC N 1463 [(((172 : Nat) : Int), 0), ((x : Int), 0), ((y : Int), 0)] s (fun r => r.1 = [] ∧ layQ x y s r.2) := by
  have loop : ∀ (M k : Nat) (s1 : Zs), k ≤ 40 → s1 207 y = s 207 x → (∀ j, j ≠ y → s1 207 j = s 207 j) → (∀ c j, 208 ≤ c → c ≤ 211 → j < k → s1 c (40 * y + j) = s c (40 * x + j)) → (∀ c j, 208 ≤ c → c ≤ 211 → ¬ (40 * y ≤ j ∧ j < 40 * y + k) → s1 c j = s c j) → zT (zE 1463) (Pt PX11_laysLines) M (14, [((172 : Nat) : Int), (x : Int), (y : Int), (k : Int)], [], s1) (fun r => r.1 = [] ∧ layQ x y s r.2) := by
    intro M
    induction M using Nat.strongRecOn with
    | ind M ih =>
      intro k s1 hk h1 h2 h3 h4
      refine b_X11_laysLines_14 _ _ _ s1 (fun g => ?_) (fun g m hm => ?_)
      · have ek : k = 40 := by omega
        subst ek
        exact ⟨rfl, h1, h2, h3, h4⟩
      · have i1 : (w32 (w32 (40 * (y : Int)) + (k : Int))).toNat = 40 * y + k := by rw [w32_id (z := 40 * (y : Int)) (by omega) (by omega), w32_id (by omega) (by omega)]; omega
        have i2 : (w32 (w32 (40 * (x : Int)) + (k : Int))).toNat = 40 * x + k := by rw [w32_id (z := 40 * (x : Int)) (by omega) (by omega), w32_id (by omega) (by omega)]; omega
        have ek : w32 ((k : Int) + 1) = ((k + 1 : Nat) : Int) := by rw [w32_id (by omega) (by omega)]; omega
        rw [i1, i2, ek]
        clear i1 i2 ek
        have g : ∀ c, 208 ≤ c → c ≤ 211 → s1 c (40 * x + k) = s c (40 * x + k) := fun c a b => h4 c _ a b (by omega)
        refine ih m hm (k + 1) _ (by omega) ?_ (fun j hj => ?_) (fun c j a b d => ?_) (fun c j a b d => ?_)
        · rw [zu_n (by omega), zu_n (by omega), zu_n (by omega), zu_n (by omega)]; exact h1
        · rw [zu_n (by omega), zu_n (by omega), zu_n (by omega), zu_n (by omega)]; exact h2 j hj
        · by_cases e : j = k
          · subst e
            rcases (show c = 208 ∨ c = 209 ∨ c = 210 ∨ c = 211 by omega) with rfl | rfl | rfl | rfl
            · rw [zu_n (by omega), zu_n (by omega), zu_n (by omega), zu_eq, g _ (by omega) (by omega)]
            · rw [zu_n (by omega), zu_n (by omega), zu_eq, g _ (by omega) (by omega)]
            · rw [zu_n (by omega), zu_eq, g _ (by omega) (by omega)]
            · rw [zu_eq, g _ (by omega) (by omega)]
          · rw [zu_n (by omega), zu_n (by omega), zu_n (by omega), zu_n (by omega)]; exact h3 c j a b (by omega)
        · rw [zu_n (by omega), zu_n (by omega), zu_n (by omega), zu_n (by omega)]; exact h4 c j a b (by omega)
  refine c_X11_laysLines (b_X11_laysLines_0 _ _ _ s (loop N 0 _ (by omega) ?_ (fun j hj => ?_) (fun c j a b d => absurd d (Nat.not_lt_zero j)) (fun c j a b d => zu_n (by omega))))
  · rw [Int.toNat_natCast, Int.toNat_natCast, zu_eq]
  · rw [Int.toNat_natCast, Int.toNat_natCast, zu_n (by omega)]
def mkLm (K : Nat → Option ZS) (x bk : Int) (s s' : Zs) : Prop := (¬ canM K x bk → ∀ c j, 207 ≤ c → c ≤ 211 → s' c j = s c j) ∧ (canM K x bk → (bk = 0 → layQ 0 (1 + x.toNat) s s') ∧ (bk ≠ 0 → layQ (1 + x.toNat) 0 s s'))
theorem layQ_e {x y : Nat} {s0 s1 s2 : Zs} (h : layQ x y s0 s1) (e0 : ∀ c j, 207 ≤ c → c ≤ 211 → s0 c j = s c j) (e1 : ∀ c j, 207 ≤ c → c ≤ 211 → s2 c j = s1 c j) : layQ x y s s2 := by
  obtain ⟨h1, h2, h3, h4⟩ := h
  exact ⟨by rw [e1 _ _ (by omega) (by omega), ← e0 _ _ (by omega) (by omega)]; exact h1, fun j hj => by rw [e1 _ _ (by omega) (by omega), ← e0 _ _ (by omega) (by omega)]; exact h2 j hj, fun c j a b d => by rw [e1 _ _ (by omega) (by omega), ← e0 _ _ (by omega) (by omega)]; exact h3 c j a b d, fun c j a b d => by rw [e1 _ _ (by omega) (by omega), ← e0 _ _ (by omega) (by omega)]; exact h4 c j a b d⟩
theorem mark_ml (hK : mkM s D K) {x bk : Int} : zC N 1472 [(((172 : Nat) : Int), 0), (x, 0), (bk, 0)] s (fun r => mkLm K x bk s r.2) := by
  have no : ¬ canM K x bk → mkLm K x bk s (zu s 172 0 0) := fun h => ⟨fun _ c j a b => zu_n (by omega), fun q => absurd q h⟩
  refine c_X11_mark (b_X11_mark_0 _ _ _ _ s (fun m _ => ?_))
  have out : ∀ z : Int, z < 0 ∨ 3 < z → z = x → ¬ canM K x bk := fun z h e q => by have := q.1; have := q.2.1; omega
  refine c_X11_within (b_X11_within_0 _ _ _ _ (fun g => ?_) (fun g g2 => ?_) (fun g g2 => ?_))
  · refine b_X11_mark_11 _ _ _ _ _ _ (fun _ => no (out x (by omega) rfl)) (fun q => absurd rfl q) (fun q => absurd rfl q) (fun q => absurd rfl q)
  · refine b_X11_mark_11 _ _ _ _ _ _ (fun _ => no (out x (by omega) rfl)) (fun q => absurd rfl q) (fun q => absurd rfl q) (fun q => absurd rfl q)
  obtain ⟨k, rfl⟩ := Int.eq_ofNat_of_zero_le g
  have hk : k < 4 := by omega
  have kz : zu s 172 0 0 220 ((k : Nat) : Int).toNat = if (K k).isSome = true then 1 else 0 := by rw [Int.toNat_natCast, zu_n (by omega)]; exact (hK k hk).1
  have ek : w32 (1 + ((k : Nat) : Int)) = ((1 + k : Nat) : Int) := by rw [w32_id (by omega) (by omega)]; omega
  have lay : ∀ (m x3 x4 : Nat) (Q : Zr → Prop) (s1 : Zs), x3 < 6 → x4 < 6 → x3 ≠ x4 → (∀ s3 m', layQ x3 x4 s1 s3 → zT (zE 1472) (Pt PX11_mark) m' (75, [((172 : Nat) : Int), ((k : Nat) : Int), bk, (x3 : Int), (x4 : Int)], [], s3) Q) → zC m 1463 [(((172 : Nat) : Int), 0), ((x3 : Int), 0), ((x4 : Int), 0)] s1 (fun p => zT (zE 1472) (Pt PX11_mark) m (68, [((172 : Nat) : Int), ((k : Nat) : Int), bk, (x3 : Int), (x4 : Int)], p.1 ++ [], p.2) Q) := fun m x3 x4 Q s1 b3 b4 bn go => by
    refine zC_q (layL_el b3 b4 bn) (fun r hr => ?_)
    obtain ⟨r1, s2⟩ := r
    obtain ⟨e, f2⟩ := hr
    have e : r1 = [] := e
    subst e
    have f2 : layQ x3 x4 s1 s2 := f2
    refine b_X11_mark_68 _ _ _ _ s2 (fun m' _ => ?_)
    refine zC_q layS_ex (fun r hr => ?_)
    obtain ⟨r1, s3⟩ := r
    obtain ⟨e, f3⟩ := hr
    have e : r1 = [] := e
    subst e
    have f3 : ∀ c j, ¬ (213 ≤ c ∧ c ≤ 215) → s3 c j = zu s2 212 x4 (s2 212 x3) c j := f3
    exact go s3 m' (layQ_e f2 (fun _ _ _ _ => rfl) (fun c j a b => by rw [f3 c j (by omega), zu_n (by omega)]))
  have z0 : ∀ c j, 207 ≤ c → c ≤ 211 → zu (zu s 172 0 0) 220 ((k : Nat) : Int).toNat (zst3 1) c j = s c j := fun c j a b => by rw [zu_n (by omega), zu_n (by omega)]
  have z1 : ∀ c j, 207 ≤ c → c ≤ 211 → zu s 172 0 0 c j = s c j := fun c j a b => zu_n (by omega)
  generalize zu s 172 0 0 = s0 at kz z0 z1 no ⊢
  refine b_X11_mark_11 _ _ _ _ _ _ (fun q => absurd q (by decide)) (fun _ b0 m2 _ => ?_) (fun _ b1 b2 m2 _ => ?_) (fun _ b1 b2 => ?_)
  · rw [ek]
    refine lay m2 0 (1 + k) _ _ (by omega) (by omega) (by omega) (fun s3 m' f3 => ?_)
    refine b_X11_mark_75 _ _ _ _ s3 (fun _ m3 _ => ?_) (fun q => absurd b0 q)
    rw [w32_id (z := 13 * ((k : Nat) : Int)) (by omega) (by omega), show 13 * ((k : Nat) : Int) = ((13 * k : Nat) : Int) from by omega]
    refine zC_q (copies_ok (f := 216) (e := 218) (a := 0) (by omega) (by omega) (by omega)) (fun r hr => ?_)
    obtain ⟨r1, s4⟩ := r
    obtain ⟨e, -, c2⟩ := hr
    have e : r1 = [] := e
    subst e
    have c2 : ∀ c j, ¬ (c = 218 ∧ 13 * k ≤ j ∧ j < 13 * k + 13) → s4 c j = s3 c j := c2
    refine b_X11_mark_119 _ _ _ _ s4 ?_
    show mkLm K ((k : Nat) : Int) bk s s4
    refine ⟨fun q => absurd ⟨g, by omega, fun q2 => absurd b0 q2⟩ q, fun _ => ⟨fun _ => ?_, fun q => absurd b0 q⟩⟩
    rw [Int.toNat_natCast]
    exact layQ_e f3 z0 (fun c j a b => c2 c j (by omega))
  · rw [ek]
    have can : canM K ((k : Nat) : Int) bk := ⟨g, by omega, fun _ => by
      have b2 : s0 220 ((k : Nat) : Int).toNat ≠ 0 := b2
      rw [kz] at b2
      rw [Int.toNat_natCast]
      cases q : (K k).isSome with
      | true => rfl
      | false => rw [q] at b2; exact absurd (if_neg (by decide)) b2⟩
    refine lay m2 (1 + k) 0 _ _ (by omega) (by omega) (by omega) (fun s3 m' f3 => ?_)
    refine b_X11_mark_75 _ _ _ _ s3 (fun q => absurd q b1) (fun _ m3 _ => ?_)
    rw [w32_id (z := 13 * ((k : Nat) : Int)) (by omega) (by omega), show 13 * ((k : Nat) : Int) = ((13 * k : Nat) : Int) from by omega]
    refine zC_q (copies_ok (f := 218) (e := 216) (b := 0) (by omega) (by omega) (by omega)) (fun r hr => ?_)
    obtain ⟨r1, s4⟩ := r
    obtain ⟨e, -, c2⟩ := hr
    have e : r1 = [] := e
    subst e
    have c2 : ∀ c j, ¬ (c = 216 ∧ 0 ≤ j ∧ j < 0 + 13) → s4 c j = s3 c j := c2
    have W : ∀ s9 : Zs, s9 = zu s4 172 60 0 → mkLm K ((k : Nat) : Int) bk s s9 := fun s9 e9 => by
      have f9 : ∀ c j, c ≠ 172 → s9 c j = s4 c j := fun c j a => by rw [e9, zu_n (fun q => a q.1)]
      refine ⟨fun q => absurd can q, fun _ => ⟨fun q => absurd q b1, fun _ => ?_⟩⟩
      rw [Int.toNat_natCast]
      exact layQ_e f3 z0 (fun c j a b => (f9 c j (by omega)).trans (c2 c j (by omega)))
    exact b_X11_mark_95 _ _ _ _ s4 (W _ rfl)
  · refine no (fun q => ?_)
    have ks : (K k).isSome = true := q.2.2 b1
    have b2 : s0 220 ((k : Nat) : Int).toNat = 0 := b2
    rw [kz, if_pos ks] at b2
    exact absurd b2 (by decide)
theorem ln_mark {s1 s2 : Zs} {x bk : Int} (h : lnR s D K) (c1 : mkLc K x bk s s1) (f1 : ∀ c j, 207 ≤ c → c ≤ 211 → s1 c j = s c j) (c2 : mkLm K x bk s1 s2) (f2 : ∀ c j, (85 ≤ c ∧ c ≤ 162) → s2 c j = s1 c j) : (¬ canM K x bk → lnR s2 D K) ∧ (canM K x bk → bk = 0 → lnR s2 D (mkS K x.toNat S)) ∧ (canM K x bk → bk ≠ 0 → lnR s2 D K) := by
  refine ⟨fun no => ?_, fun can b => ?_, fun can b => ?_⟩
  · refine ln_e h (fun c j q => ?_)
    have a1 := c1.1 no
    unfold lnC at q
    by_cases e : 207 ≤ c
    · rw [c2.1 no c j e (by omega), f1 c j e (by omega)]
    · rw [f2 _ _ (by omega), a1]
  · obtain ⟨⟨u1, u2⟩, u3, u4⟩ := (c1.2 can).1 b
    obtain ⟨y1, y2, y3, y4⟩ := (c2.2 can).1 b
    have hk : x.toNat < 4 := by have := can.1; have := can.2.1; omega
    obtain ⟨⟨L, h1⟩, h2⟩ := h
    refine ⟨⟨L, lnX_mv h1 ?_ (fun j hj => ?_) ?_ (fun d j a b2 c => ?_)⟩, fun m hm hK => ?_⟩
    · rw [f2 _ _ (by omega), u3 _ _ (by omega) (by omega)]
    · rw [f2 _ _ (by omega), u3 _ _ (by omega) (by omega)]
    · rw [y2 0 (by omega), f1 _ _ (by omega) (by omega)]
    · rw [y4 _ _ a b2 (by omega), f1 _ _ (by omega) (by omega)]
    · by_cases e : m = x.toNat
      · subst e
        refine ⟨L, lnX_mv h1 ?_ (fun j hj => ?_) ?_ (fun d j a b2 c => ?_)⟩
        · rw [f2 _ _ (by omega), u1]
        · rw [f2 _ _ (by omega), show 151 + 3 * x.toNat + 1 = 152 + 3 * x.toNat from by omega, u2 j hj]
        · rw [y1, f1 _ _ (by omega) (by omega)]
        · rw [y3 _ _ a b2 c, f1 _ _ (by omega) (by omega)]
      · have hK : (if m = x.toNat then some S else K m).isSome = true := hK
        rw [if_neg e] at hK
        obtain ⟨L2, h3⟩ := h2 m hm hK
        refine ⟨L2, lnX_mv h3 ?_ (fun j hj => ?_) ?_ (fun d j a b2 c => ?_)⟩
        · rw [f2 _ _ (by omega), u4 m _ _ hm e (by omega) (by omega)]
        · rw [f2 _ _ (by omega), u4 m _ _ hm e (by omega) (by omega)]
        · rw [y2 _ (by omega), f1 _ _ (by omega) (by omega)]
        · rw [y4 _ _ a b2 (by omega), f1 _ _ (by omega) (by omega)]
  · obtain ⟨⟨u1, u2⟩, u3⟩ := (c1.2 can).2 b
    obtain ⟨y1, y2, y3, y4⟩ := (c2.2 can).2 b
    have hk : x.toNat < 4 := by have := can.1; have := can.2.1; omega
    refine ⟨?_, fun m hm hK => ?_⟩
    · obtain ⟨L, h1⟩ := h.2 _ hk (can.2.2 b)
      refine ⟨L, lnX_mv h1 ?_ (fun j hj => ?_) ?_ (fun d j a b2 c => ?_)⟩
      · rw [f2 _ _ (by omega), u1]
      · rw [f2 _ _ (by omega), u2 j hj, show 151 + 3 * x.toNat + 1 = 152 + 3 * x.toNat from by omega]
      · rw [y1, f1 _ _ (by omega) (by omega)]
      · rw [y3 _ _ a b2 c, f1 _ _ (by omega) (by omega)]
    · obtain ⟨L, h1⟩ := h.2 m hm hK
      refine ⟨L, lnX_mv h1 ?_ (fun j hj => ?_) ?_ (fun d j a b2 c => ?_)⟩
      · rw [f2 _ _ (by omega), u3 _ _ (by omega) (by omega)]
      · rw [f2 _ _ (by omega), u3 _ _ (by omega) (by omega)]
      · rw [y2 _ (by omega), f1 _ _ (by omega) (by omega)]
      · rw [y4 _ _ a b2 (by omega), f1 _ _ (by omega) (by omega)]
/-! what nights leaves of the lines at the marks, and of all lines with a FAULT -/
def nfr (s s' : Zs) : Prop := (∀ j, 1 ≤ j → j < 5 → s' 207 j = s 207 j) ∧ ∀ c j, 208 ≤ c → c ≤ 211 → 40 ≤ j → j < 200 → s' c j = s c j
def nfz (s s' : Zs) : Prop := (∀ j, j < 5 → s' 207 j = s 207 j) ∧ ∀ c j, 208 ≤ c → c ≤ 211 → j < 200 → s' c j = s c j
theorem mLinesF {s0 : Zs} : ∀ (M f p : Nat) (L : NL) (s : Zs), n - p ≤ f → mNi s T n p D L → frQ s0 s → zT (zE 1484) (Pt PX11_nights) M (16, [((172 : Nat) : Int)], [], s) (fun r => nfr s0 r.2 ∧ ((pNA T n D f (0, p) L).1.1 ≠ 0 → nfz s0 r.2)) := by
  intro M
  induction M using Nat.strongRecOn with
  | ind M ih =>
    intro f p L s hf h hb
    have hq : s 172 6 = mQ (eQ T n (kB T n p)) := h.1.1.2.2.2.2.1
    refine b_X11_nights_16 s (fun g m hm => ?_) (fun g m hm => ?_)
    · have e1 : eQ T n (kB T n p) = 1 := mQ_0.mp (hq.symm.trans g)
      have e : pNA T n D f (0, p) L = ((0, p), L) := by
        cases f with
        | zero => rfl
        | succ f => exact if_neg (fun q => q.2 e1)
      rw [e]
      refine zC_q (layL_el (x := 5) (y := 0) (by omega) (by omega) (by omega)) (fun r hr => ?_)
      obtain ⟨r1, s1⟩ := r
      obtain ⟨a, -, u2, -, u4⟩ := hr
      have a : r1 = [] := a
      subst a
      have u2 : ∀ j, j ≠ 0 → s1 207 j = s 207 j := u2
      have u4 : ∀ c j, 208 ≤ c → c ≤ 211 → ¬ (40 * 0 ≤ j ∧ j < 40 * 0 + 40) → s1 c j = s c j := u4
      exact b_X11_nights_41 s1 ⟨⟨fun j a b => (u2 j (by omega)).trans (hb _ _ (by omega) (by omega) (by omega)), fun c j a b d e => (u4 c j a b (by omega)).trans (hb _ _ (by omega) (by omega) (by omega))⟩, fun q => absurd rfl q⟩
    · have e1 : eQ T n (kB T n p) ≠ 1 := fun q => g (hq.trans (mQ_0.mpr q))
      have hp : p < n := pos_lt h.1.1.2.1 e1
      obtain ⟨f', rfl⟩ : ∃ f', f = f' + 1 := ⟨f - 1, by omega⟩
      have e : pNA T n D (f' + 1) (0, p) L = pNA T n D f' (pNL T n D (0, p) L).1 (pNL T n D (0, p) L).2 := if_pos ⟨rfl, e1⟩
      rw [e]
      refine mLine h (fun s1 a f1 b => ?_) (fun s1 a f1 h1 => ?_)
      · refine b_X11_nights_27 _ s1 (fun q => absurd rfl q) (fun _ => ?_)
        have f1 : frQ s s1 := f1
        have z : ∀ c j, (c = 207 ∧ j < 5) ∨ (208 ≤ c ∧ c ≤ 211 ∧ j < 200) → s1 c j = s0 c j := fun c j q => (f1 c j (by omega) (by omega) (by omega)).trans (hb c j (by omega) (by omega) (by omega))
        exact ⟨⟨fun j a b => z _ _ (by omega), fun c j a b d e => z _ _ (by omega)⟩, fun _ => ⟨fun j a => z _ _ (by omega), fun c j a b d => z _ _ (by omega)⟩⟩
      · refine b_X11_nights_27 _ s1 (fun _ m2 hm2 => ?_) (fun q => absurd q (by decide))
        have f1 : frQ s s1 := f1
        have ep : ((pNL T n D (0, p) L).1 : PS) = (0, (pNL T n D (0, p) L).1.2) := Prod.ext a rfl
        rw [ep]
        refine ih m2 (by omega) f' _ _ s1 ?_ h1 (fun c j a b d => (f1 c j a b d).trans (hb c j a b d))
        have := pNL_gt (T := T) (D := D) (L := L) h.1.1.2.1 e1 a
        omega
theorem nights_mF (h1 : s 172 1 = (n : Int)) (hn : n ≤ 1000) (hT : ∀ i, i < n → s 173 i = T i) (hm : mT s D) (hw : wD D) (hF : wF D) : zC N 1484 [(((172 : Nat) : Int), 0)] s (fun r => nfr s r.2 ∧ ((pNA T n D 1000 (0, 0) []).1.1 ≠ 0 → nfz s r.2)) := by
  refine c_X11_nights (b_X11_nights_0 s (fun m _ => ?_))
  refine starts_q (n := n) (T := T) (by rw [zu_n (by omega), zu_n (by omega)]; exact h1) hn (fun i hi => by rw [zu_n (by omega), zu_n (by omega)]; exact hT i hi) (fun s1 f1 _ _ t1 st => ?_)
  have o : ∀ c j, c ≠ 172 → ¬ (c = 207 ∧ j = 5) → s1 c j = s c j := fun c j a b => by rw [f1 c j a, zu_n b, zu_n (fun q => a q.1)]
  refine zT_q (mLinesF (s0 := s1) m 1000 0 [] s1 (by omega) ⟨⟨st, mT_e (fun c j a b => o c j (by omega) (by omega)) hm, hw, hF, trivial⟩, ?_, by decide, fun i r hr => by simp at hr⟩ (fun _ _ _ _ _ => rfl)) (fun r hr => ?_)
  · rw [f1 207 5 (by omega), zu_eq]
    rfl
  · obtain ⟨⟨a1, a2⟩, a3⟩ := hr
    exact ⟨⟨fun j a b => (a1 j a b).trans (o _ _ (by omega) (by omega)), fun c j a b d e => (a2 c j a b d e).trans (o _ _ (by omega) (by omega))⟩, fun q => ⟨fun j a => ((a3 q).1 j a).trans (o _ _ (by omega) (by omega)), fun c j a b d => ((a3 q).2 c j a b d).trans (o _ _ (by omega) (by omega))⟩⟩
theorem nights_cF (ht : t = 7 ∨ t = 43) (h03 : s 0 3 = (t : Int)) (h : tkS s T n) (hd : cDn s t D) (hw : wD D) (hh : cDh s t D) (hz : zM s) : zC N 1304 [(((0 : Nat) : Int), 0)] s (fun r => (pNA T n D 1000 (0, 0) []).1.1 ≠ 0 → ∀ c j, 85 ≤ c → c ≤ 86 → r.2 c j = s c j) := by
  refine c_X10_nights (b_X10_nights_0 0 s ht (fun m _ => ?_))
  rw [h03]
  refine zC_q (nread_ok ht h hd hw hh hz) (fun r hr => ?_)
  obtain ⟨r1, s1⟩ := r
  generalize pNA T n D 1000 (0, 0) [] = y at hr ⊢
  obtain ⟨e, f, -⟩ := hr
  have e : r1 = [(y.1.1, 0)] := e
  subst e
  have f : frL t s s1 := f
  refine b_X10_nights_11 _ _ s1 ht (fun g => fun _ c j a b => ?_) (fun g m2 _ => ?_)
  · show zu s1 1 0 0 c j = _
    rw [zu_n (by omega)]
    exact f c j (by omega) (by omega) (by omega) (by omega)
  · refine c_X5_tell (b_X5_tell_0 _ _ (b_X10_nights_45 _ _ ht ?_))
    exact fun q => absurd g q
/-- the relation with the lines -/
def mkY (s : Zs) (D : ZD) (K : Nat → Option ZS) : Prop := mkX s D K ∧ lnR s D K
theorem mkY_e (hw : wD D) (h : mkY s D K) (e0 : ∀ j, s' 220 j = s 220 j) (e1 : ∀ j, s' 218 j = s 218 j) (e2 : ∀ c j, sdC c j → s' c j = s c j) (e3 : ∀ c j, lnC c j → s' c j = s c j) : mkY s' D K := ⟨mkX_e hw h.1 e0 e1 e2, ln_e h.2 e3⟩
end Zln
