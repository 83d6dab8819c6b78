/-! what is promised, an argument told apart -/
def spI (e : Se) : List Se → Int → Bool
  | [], lo => decide (e.2.1 < lo)
  | f :: t, lo => decide (f.1 = lo) && f.2.2 == e.2.2 && spI e t (f.2.1 + 1)
def spX (RG : Nat → List Nat) (g : Nat) (Es : List Cu) (E : Cu) : Bool := Es.any fun E' => match mpA (E'.1.1, E.1.2) E'.2 with
  | some m => entM RG (E'.1.1, E.1.2) E' m && ghK g 0 m && E'.1.2.1.isEmpty
  | none => false
def spK (RG : Nat → List Nat) (s : Nat) (cx : Cx) (subs : List Cx) : Bool := match cx.2.2.2.2.1.1.2.2.2.1[s]? with
  | none => false
  | some e => spI e (subs.map fun c => (c.2.2.2.2.1.1.2.2.2.1[s]?).getD (0, 0, 0, 0, 0)) e.1 && subs.all fun c => c.1 == cx.1 && decide (c.2.1 ≤ cx.2.1) && c.2.2.1 == cx.2.2.1 && c.2.2.2.1 == cx.2.2.2.1 && c.2.2.2.2.1.1 == (cx.2.2.2.2.1.1.1, cx.2.2.2.2.1.1.2.1, cx.2.2.2.2.1.1.2.2.1, cx.2.2.2.2.1.1.2.2.2.1.set s ((c.2.2.2.2.1.1.2.2.2.1[s]?).getD (0, 0, 0, 0, 0)), cx.2.2.2.2.1.1.2.2.2.2) && c.2.2.2.2.2.all fun E => spX RG cx.2.2.2.2.1.1.2.2.2.1.length cx.2.2.2.2.2 E
theorem spI_ok {e : Se} {w : Int} (h2 : w ≤ e.2.1) : ∀ {l : List Se} {lo : Int}, spI e l lo = true → lo ≤ w → ∃ f ∈ l, f.1 ≤ w ∧ w ≤ f.2.1 ∧ f.2.2 = e.2.2
  | [], lo, h, h1 => by
    have h : decide (e.2.1 < lo) = true := h
    simp only [decide_eq_true_eq] at h
    omega
  | f :: t, lo, h, h1 => by
    unfold spI at h
    simp only [Bool.and_eq_true, decide_eq_true_eq] at h
    by_cases hw : w ≤ f.2.1
    · exact ⟨f, List.mem_cons_self, by omega, hw, eq_of_beq h.1.2⟩
    · obtain ⟨f', q1, q2⟩ := spI_ok h2 h.2 (by omega)
      exact ⟨f', List.mem_cons_of_mem _ q1, q2⟩
theorem Hd_split {HT : Nat → Hk} {RG : Nat → List Nat} {n : Nat} {MT : Nat → Option Me} {xs : Nat → Me → Cf → Cf → Prop} {cx : Cx} {subs : List Cx} (s : Nat) (hs : ∀ c ∈ subs, Hd HT RG n MT xs c) (h : spK RG s cx subs = true) : Hd HT RG n MT xs cx := by
  intro d hd av hp vs0 hsl g
  unfold spK at h
  split at h
  · cases h
  · rename_i e he
    simp only [Bool.and_eq_true] at h
    obtain ⟨h1, h2⟩ := h
    obtain ⟨g0, g1, g2, g3, g4, g5, g6⟩ := g
    have hw : ∃ w, vs0[s]? = some w := by
      have := (List.getElem?_eq_some_iff.mp he).1
      rw [g3.1] at this
      exact ⟨_, List.getElem?_eq_getElem this⟩
    obtain ⟨w, hw⟩ := hw
    have hge := g3.2.2 s e w he hw
    obtain ⟨f, q1, q2, q3, q4⟩ := spI_ok hge.2.1 h1 hge.1
    obtain ⟨c, hc, hf⟩ := List.mem_map.mp q1
    have h3 := List.all_eq_true.mp h2 c hc
    rw [hf] at h3
    simp only [Bool.and_eq_true, beq_iff_eq, decide_eq_true_eq] at h3
    obtain ⟨⟨⟨⟨⟨k1, k2⟩, k3⟩, k4⟩, k5⟩, k6⟩ := h3
    have gs' : gs (cx.2.2.2.2.1.1.2.2.2.1.set s f) vs0 := gs_set g3 hw ⟨q2, q3, by rw [q4]; exact hge.2.2⟩
    have gE : ga HT RG n c.2.2.2.1 hp vs0 c.2.2.2.2.1.1 (0, lv_args 0 av, [], hp) := by
      rw [k5, k4]
      exact ⟨g0, g1, g2, gs', g4, g5, g6⟩
    obtain ⟨r, h', E, vsE, w1, w2, w3, w4⟩ := hs c hc d (by omega) av hp vs0 (by rw [k3]; exact hsl) gE
    have h6 := List.all_eq_true.mp k6 E w2
    obtain ⟨E', z1, z2⟩ := List.any_eq_true.mp h6
    split at z2
    · rename_i m hm
      simp only [Bool.and_eq_true] at z2
      rw [k4] at w4
      have gA : ga HT RG n cx.2.2.2.1 hp vsE (E'.1.1, E.1.2) (E'.1.1, [], r.toList, h') := ⟨rfl, w4.2⟩
      have gC := entM_ok gA hm z2.1.1
      obtain ⟨ws, hws⟩ := w3
      have hl : cx.2.2.2.2.1.1.2.2.2.1.length = vs0.length := g3.1
      have z4 := z2.1.2
      rw [hl] at z4
      have gp := gh_pre (A := E.1) hws gC z4
      rw [k1] at w1
      exact ⟨r, h', E', _, w1, z1, gp, gC⟩
    · cases z2
