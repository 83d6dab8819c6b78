/-! who can come where: places, ways, what is closed -/
noncomputable def dcP (p : Prop) : Bool := @decide p (Classical.propDecidable p)
theorem dcP_iff {p : Prop} : dcP p = true ↔ p := @decide_eq_true_iff p (Classical.propDecidable p)
theorem dcP_no {p : Prop} (h : ¬ p) : dcP p = false := by
  cases e : dcP p with
  | false => rfl
  | true => exact absurd (dcP_iff.mp e) h
theorem dcP_yes {p : Prop} (h : p) : dcP p = true := dcP_iff.mpr h
section Zgr
variable {D : ZD}
def lowN (D : ZD) (f : Nat) : Nat := (colD D 10 f).toNat * 6 + (colD D 11 f).toNat
def upF (D : ZD) (q : Nat) : Int := fxI D ((q / 6 : Nat) : Int) ((q % 6 : Nat) : Int)
def isPN (D : ZD) (q : Nat) : Prop := ((q % 6 : Nat) : Int) ≤ flr D ((q / 6 : Nat) : Int)
abbrev onW (a b q : Nat) : Prop := (a / 6 = b / 6 ∧ ((a ≤ q ∧ q < b) ∨ (b ≤ q ∧ q < a))) ∨ (a / 6 ≠ b / 6 ∧ ((a / 6 * 6 ≤ q ∧ q < a) ∨ (b / 6 * 6 ≤ q ∧ q < b)))
def okU (D : ZD) (o q : Nat) : Prop := upF D q ≠ -1 ∧ o.testBit (upF D q).toNat = true
def wok (D : ZD) (o a b : Nat) : Prop := isPN D a ∧ isPN D b ∧ ∀ q, onW a b q → okU D o q
def clo (D : ZD) (o : Nat) (X : Nat → Prop) : Prop := (∀ f, f < cnt D 1 → o.testBit f = true → (X (lowN D f) ∨ X (lowN D f + 1)) → X (lowN D f) ∧ X (lowN D f + 1)) ∧ ∀ h h' : Nat, h < cnt D 0 → h' < cnt D 0 → X (h * 6) → X (h' * 6)
theorem fxl_get {h f : Int} : ∀ (as bs : List Int), fxI.fxl h f as bs ≠ -1 → ∃ k : Nat, fxI.fxl h f as bs = (k : Int) ∧ as[k]? = some h ∧ bs[k]? = some f
  | [], _, hn => absurd rfl hn
  | _ :: _, [], hn => absurd rfl hn
  | a :: as, b :: bs, hn => by
    unfold fxI.fxl at hn ⊢
    by_cases c : a = h ∧ b = f
    · rw [if_pos c]
      exact ⟨0, rfl, by rw [c.1]; rfl, by rw [c.2]; rfl⟩
    · rw [if_neg c] at hn ⊢
      by_cases c2 : fxI.fxl h f as bs = -1
      · rw [if_pos c2] at hn
        exact absurd rfl hn
      · rw [if_neg c2]
        obtain ⟨k, e1, e2, e3⟩ := fxl_get as bs c2
        exact ⟨k + 1, by rw [e1]; omega, by simpa using e2, by simpa using e3⟩
theorem col_get {c i : Nat} {v : Int} (h : (dC D c)[i]? = some v) : colD D c i = v := by unfold colD; rw [h]; rfl
theorem col_at (hw : wD D) {k j i : Nat} (h1 : 1 ≤ k) (h2 : k < 5) (h3 : j < wdt k) (hi : i < cnt D k) : (dC D (10 * k + j))[i]? = some (colD D (10 * k + j) i) := by
  have hl := hw.2.2.2.2.1 k j h1 h2 h3
  unfold colD
  rw [List.getElem?_eq_getElem (by omega)]
  rfl
theorem col_mem' (hw : wD D) {k j i : Nat} (h1 : 1 ≤ k) (h2 : k < 5) (h3 : j < wdt k) (hi : i < cnt D k) : colD D (10 * k + j) i ∈ dC D (10 * k + j) := List.mem_of_getElem? (col_at hw h1 h2 h3 hi)
theorem fl_bd (hw : wD D) {f : Nat} (hf : f < cnt D 1) : 0 ≤ colD D 10 f ∧ colD D 10 f < cnt D 0 ∧ 0 ≤ colD D 11 f ∧ colD D 11 f ≤ 4 := by
  have a := hw.2.2.2.2.2.2.1 _ (col_mem' hw (k := 1) (j := 0) (by omega) (by omega) (by decide) hf)
  have b := hw.2.2.2.2.2.2.2 _ (col_mem' hw (k := 1) (j := 1) (by omega) (by omega) (by decide) hf)
  exact ⟨a.1, a.2, b.1, b.2⟩
theorem fl_up (hw : wD D) (hF : wF D) {f : Nat} (hf : f < cnt D 1) : colD D 11 f < flr D (colD D 10 f) := hF f _ _ (col_at hw (k := 1) (j := 0) (by omega) (by omega) (by decide) hf) (col_at hw (k := 1) (j := 1) (by omega) (by omega) (by decide) hf)
theorem low_dm (hw : wD D) {f : Nat} (hf : f < cnt D 1) : ((lowN D f / 6 : Nat) : Int) = colD D 10 f ∧ ((lowN D f % 6 : Nat) : Int) = colD D 11 f ∧ lowN D f % 6 ≤ 4 := by
  have h := fl_bd hw hf
  unfold lowN
  omega
theorem upF_get (hw : wD D) {q : Nat} (h : upF D q ≠ -1) : 0 ≤ upF D q ∧ (upF D q).toNat < cnt D 1 ∧ lowN D (upF D q).toNat = q ∧ q % 6 ≤ 4 := by
  obtain ⟨k, e1, e2, e3⟩ := fxl_get (dC D 10) (dC D 11) h
  have e1 : upF D q = (k : Int) := e1
  have hk := (List.getElem?_eq_some_iff.mp e2).1
  have l10 : (dC D 10).length = cnt D 1 := hw.2.2.2.2.1 1 0 (by omega) (by omega) (by decide)
  have b := hw.2.2.2.2.2.2.2 _ (List.mem_of_getElem? e3)
  rw [e1, Int.toNat_natCast]
  refine ⟨by omega, by omega, ?_, by omega⟩
  unfold lowN
  rw [col_get e2, col_get e3]
  omega
theorem upF_low (hw : wD D) (hX : wX D) {f : Nat} (hf : f < cnt D 1) : upF D (lowN D f) = (f : Int) := by
  have a := col_at hw (k := 1) (j := 0) (by omega) (by omega) (by decide) hf
  have b := col_at hw (k := 1) (j := 1) (by omega) (by omega) (by decide) hf
  have d := low_dm hw hf
  have hn : upF D (lowN D f) ≠ -1 := fun q => by
    unfold upF at q
    rw [d.1, d.2.1] at q
    exact fxl_ne _ _ q f a b
  obtain ⟨k, e1, e2, e3⟩ := fxl_get (dC D 10) (dC D 11) hn
  rw [d.1] at e2
  rw [d.2.1] at e3
  have e1 : upF D (lowN D f) = (k : Int) := e1
  rw [e1, hX.1 k f _ _ e2 a e3 b]
theorem low_pl (hw : wD D) (hF : wF D) {f : Nat} (hf : f < cnt D 1) : isPN D (lowN D f) ∧ isPN D (lowN D f + 1) := by
  have h := low_dm hw hf
  have u := fl_up hw hF hf
  have e1 : (lowN D f + 1) / 6 = lowN D f / 6 := by omega
  have e2 : (lowN D f + 1) % 6 = lowN D f % 6 + 1 := by omega
  unfold isPN
  rw [e1, e2, h.1]
  omega
theorem st_pl (hw : wD D) {h : Nat} (hh : h < cnt D 0) : isPN D (h * 6) := by
  have e1 : h * 6 / 6 = h := by omega
  have e2 : h * 6 % 6 = 0 := by omega
  unfold isPN
  rw [e1, e2]
  have hl : (dC D 0).length = cnt D 0 := hw.2.2.2.1
  have hc : cnt D 0 = (dN D 0).length := rfl
  unfold flr
  rw [if_pos ⟨by omega, by omega⟩, List.getElem?_eq_getElem (show (h : Int).toNat < (dC D 0).length by omega)]
  have := hw.2.2.2.2.2.1 _ (List.getElem_mem (show (h : Int).toNat < (dC D 0).length by omega))
  show ((0 : Nat) : Int) ≤ _
  simp only [Option.getD_some]
  omega
theorem pl_h (hw : wD D) {q : Nat} (h : isPN D q) : q / 6 < cnt D 0 ∧ q < 30 := by
  unfold isPN at h
  have b := flr_in (D := D) (a := ((q / 6 : Nat) : Int)) (by omega)
  have hc : cnt D 0 = (dN D 0).length := rfl
  have h5 : cnt D 0 ≤ 5 := hw.1 0 (by omega)
  omega
theorem okU_step (hw : wD D) {o q : Nat} {X : Nat → Prop} (hX : clo D o X) (h : okU D o q) : X q ↔ X (q + 1) := by
  obtain ⟨a, b, c, -⟩ := upF_get hw h.1
  have := hX.1 _ b h.2
  rw [c] at this
  exact ⟨fun x => (this (Or.inl x)).2, fun x => (this (Or.inr x)).1⟩
theorem walk (hw : wD D) {o c : Nat} {X : Nat → Prop} (hX : clo D o X) : ∀ n, (∀ q, c ≤ q → q < c + n → okU D o q) → (X c ↔ X (c + n))
  | 0, _ => Iff.rfl
  | n + 1, h => (walk hw hX n (fun q a b => h q a (by omega))).trans (okU_step hw hX (h (c + n) (by omega) (by omega)))
theorem walk' (hw : wD D) {o c d : Nat} {X : Nat → Prop} (hX : clo D o X) (hd : c ≤ d) (h : ∀ q, c ≤ q → q < d → okU D o q) : X c ↔ X d := by
  have := walk hw hX (c := c) (d - c) (fun q a b => h q a (by omega))
  rwa [show c + (d - c) = d by omega] at this
/-- what can be come to lies in all that is closed -/
theorem wok_in (hw : wD D) {o a b : Nat} {X : Nat → Prop} (hX : clo D o X) (ha : X a) (h : wok D o a b) : X b := by
  obtain ⟨pa, pb, hq⟩ := h
  have ba := pl_h hw pa
  have bb := pl_h hw pb
  by_cases e : a / 6 = b / 6
  · by_cases l : a ≤ b
    · exact (walk' hw hX l (fun q u v => hq q (Or.inl ⟨e, Or.inl ⟨u, v⟩⟩))).mp ha
    · exact (walk' hw hX (show b ≤ a by omega) (fun q u v => hq q (Or.inl ⟨e, Or.inr ⟨u, v⟩⟩))).mpr ha
  · have s1 : X (a / 6 * 6) := (walk' hw hX (show a / 6 * 6 ≤ a by omega) (fun q u v => hq q (Or.inr ⟨e, Or.inl ⟨u, v⟩⟩))).mpr ha
    have s2 : X (b / 6 * 6) := hX.2 _ _ ba.1 bb.1 s1
    exact (walk' hw hX (show b / 6 * 6 ≤ b by omega) (fun q u v => hq q (Or.inr ⟨e, Or.inr ⟨u, v⟩⟩))).mp s2
/-- what can be come to is closed -/
theorem wok_clo (hw : wD D) (hF : wF D) (hX : wX D) {o a : Nat} : clo D o (wok D o a) := by
  refine ⟨fun f hf ho => ?_, fun h h' hh hh' => ?_⟩
  · have d := low_dm hw hf
    have pl := low_pl hw hF hf
    have ok : okU D o (lowN D f) := by
      unfold okU
      rw [upF_low hw hX hf, Int.toNat_natCast]
      exact ⟨by omega, ho⟩
    generalize lowN D f = l at d pl ok
    have t1 : wok D o a l → wok D o a (l + 1) := fun ⟨p1, p2, p3⟩ => ⟨p1, pl.2, fun q hq => by
      by_cases e : q = l
      · rw [e]; exact ok
      · refine p3 q ?_
        unfold onW at hq ⊢
        omega⟩
    have t2 : wok D o a (l + 1) → wok D o a l := fun ⟨p1, p2, p3⟩ => ⟨p1, pl.1, fun q hq => by
      by_cases e : q = l
      · rw [e]; exact ok
      · refine p3 q ?_
        unfold onW at hq ⊢
        omega⟩
    exact fun q => q.elim (fun q => ⟨q, t1 q⟩) (fun q => ⟨t2 q, q⟩)
  · exact fun ⟨p1, p2, p3⟩ => ⟨p1, st_pl hw hh', fun q hq => p3 q (by unfold onW at hq ⊢; omega)⟩
theorem wok_self {o a : Nat} (h : isPN D a) : wok D o a a := ⟨h, h, fun q hq => by unfold onW at hq; omega⟩
theorem wok_sym {o a b : Nat} (h : wok D o a b) : wok D o b a := ⟨h.2.1, h.1, fun q hq => h.2.2 q (by unfold onW at hq ⊢; omega)⟩
/-- a set that is closed, has where one stands, and nothing that can't be come to -/
theorem rch_iff (hw : wD D) {o a : Nat} {X : Nat → Prop} (hX : clo D o X) (ha : X a) (hs : ∀ b, X b → wok D o a b) (b : Nat) : X b ↔ wok D o a b := ⟨hs b, wok_in hw hX ha⟩
end Zgr
