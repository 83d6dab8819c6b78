/-! a method checked holds what is promised of it -/
def stF (MT : Nat → Option Me) (k kind : Nat) : Bool := match MT k with
  | some me => me.2.2.2.2.2 == (kind == 0)
  | none => false
def nxA (HT : Nat → Hk) (RG : Nat → List Nat) (FK : Nat → Bool) (UN : Nat → Option Nat) (KC : Nat → Option Nat) (MT : Nat → Option Me) (EX : Op0 → Ab → Option (List Ab)) (md : Md) (lv : Nat) (cs : Nat → List Cx) (o : Op0) (A : Ab) : Option (List Ab) := match o.1 with
  | 23 => if stF MT o.2.1 o.2.2.2.1.toNat = true then callA HT RG KC md lv (cs o.2.1) o.2.1 o.2.2.1 o.2.2.2.1.toNat o.2.2.2.2.1 A else none
  | 24 => EX o A
  | _ => aop HT RG FK UN md o A
def chk (HT : Nat → Hk) (RG : Nat → List Nat) (FK : Nat → Bool) (UN : Nat → Option Nat) (KC : Nat → Option Nat) (MT : Nat → Option Me) (EX : Op0 → Ab → Option (List Ab)) (P : Nat → Option Op0) (nL rt : Nat) (cs : Nat → List Cx) (f : Nat) (cx : Cx) (pcs : List Nat) (cuts : List (Cu × Rk)) : Bool :=
  decide (cx.2.2.1 ≤ nL) && decide (0 < cx.2.1) && cuts.all (fun c => rkB c.1.1.2.2.2.1 c.2)
  && rn RG P (nxA HT RG FK UN KC MT EX cx.2.2.2.1 cx.2.1 cs) cx.2.2.2.2.1.1.2.2.2.1.length rt cx.2.2.2.2.2 pcs cuts none f cx.2.2.2.2.1.1
  && cuts.all (fun c => rn RG P (nxA HT RG FK UN KC MT EX cx.2.2.2.1 cx.2.1 cs) cx.2.2.2.2.1.1.2.2.2.1.length rt cx.2.2.2.2.2 pcs cuts (some c.2) f c.1.1)
section Chk
variable {HT : Nat → Hk} {RG : Nat → List Nat} {FK : Nat → Bool} {UN : Nat → Option Nat} {KC : Nat → Option Nat} {n : Nat} {MT : Nat → Option Me} {xs : Nat → Me → Cf → Cf → Prop} {EX : Op0 → Ab → Option (List Ab)} {P : Nat → Option Op0} {me : Me}
theorem chk_ok {cs : Nat → List Cx} {f : Nat} {cx : Cx} {pcs : List Nat} {cuts : List (Cu × Rk)} (hn : n ≤ 1000) (hU : ∀ r k0 k, UN r = some k0 → k ∈ RG r → HT k = HT k0) (hKC : ∀ k ci me', KC k = some ci → MT k = some me' → ∃ q, vwCl[ci]? = some q ∧ q.1 = me'.1.cls)
    (hEX : ∀ (d : Nat) (o : Op0) (A : Ab) (Bs : List Ab) (vs : List Int) (cf : Cf) (h0 : Ph) (ins : Instr) (len : Nat), cx.2.1 ≤ d + 1 → decode me.2.1 cf.1 = .ok (ins, len) → rop me.2.2.2.2.1 me.2.2.1 cf.1 ins len = some o → o.1 = 24 → ga HT RG n cx.2.2.2.1 h0 vs A cf → EX o A = some Bs → ∃ cf', xs d me cf cf' ∧ ∃ B ∈ Bs, ∃ ws, ga HT RG n cx.2.2.2.1 h0 (vs ++ ws) B cf')
    (hme : MT cx.1 = some me) (hP : ∀ pc o, P pc = some o → ∃ ins len, decode me.2.1 pc = .ok (ins, len) ∧ rop me.2.2.2.2.1 me.2.2.1 pc ins len = some o)
    (hc : ∀ k, ∀ c ∈ cs k, Hd HT RG n MT xs c) (h : chk HT RG FK UN KC MT EX P me.2.2.1 (rtc me.2.2.2.1) cs f cx pcs cuts = true) : Hd HT RG n MT xs cx := by
  unfold chk at h
  simp only [Bool.and_eq_true, decide_eq_true_eq] at h
  obtain ⟨⟨⟨⟨c1, c2⟩, c3⟩, c4⟩, c5⟩ := h
  intro d hd av h vs0 hsl g
  obtain ⟨d', rfl⟩ : ∃ d', d = d' + 1 := ⟨d - 1, by omega⟩
  have hlen : cx.2.2.2.2.1.1.2.2.2.1.length = vs0.length := g.2.2.2.1.1
  rw [hlen] at c4 c5
  have hB : ∀ c ∈ cuts, rkB c.1.1.2.2.2.1 c.2 = true := fun c hc => List.all_eq_true.mp c3 c hc
  have hN : ∀ o A Bs vs cf, ga HT RG n cx.2.2.2.1 h vs A cf → P A.1 = some o → o.1 ≠ 22 → nxA HT RG FK UN KC MT EX cx.2.2.2.1 cx.2.1 cs o A = some Bs → ∃ cf', pm_Stp MT xs d' (pm_Ex MT xs n d') me n cf cf' ∧ ∃ B ∈ Bs, ∃ ws, ga HT RG n cx.2.2.2.1 h (vs ++ ws) B cf' := by
    intro o A Bs vs cf gA ho h22 hx
    obtain ⟨ins, len, hdc, hr⟩ := hP A.1 o ho
    rw [← gA.1] at hdc hr
    unfold nxA at hx
    split at hx
    · rename_i h23
      split at hx
      · rename_i hst
        obtain ⟨idx, i1, i2, i3, i4⟩ := rop_inv hr h23
        subst i2
        unfold stF at hst
        split at hst
        · rename_i me' hme'
          have hst : (me'.2.2.2.2.2 == (o.2.2.2.1.toNat == 0)) = true := hst
          rw [beq_iff_eq] at hst
          obtain ⟨cf', w1, w2⟩ := callA_ok (me := me) (me' := me') (idx := idx) (d := d') (KC := KC) gA (by omega) (hc o.2.1) (fun ci hci => hKC o.2.1 ci me' hci hme') hme' i1 (by
            rcases i4 with ⟨j1, rfl⟩ | ⟨j1, rfl⟩
            · left
              rw [j1] at hst ⊢
              exact ⟨rfl, hst, hdc⟩
            · right
              rw [j1] at hst ⊢
              exact ⟨rfl, hst, hdc⟩) i3 hx
          exact ⟨cf', Or.inr (Or.inr w1), w2⟩
        · cases hst
      · cases hx
    · rename_i h24
      obtain ⟨cf', w1, w2⟩ := hEX d' o A Bs vs cf h ins len (by omega) hdc hr h24 gA hx
      exact ⟨cf', Or.inr (Or.inl w1), w2⟩
    · obtain ⟨cf', w1, w2⟩ := aop_ok hn hU gA hr hx
      refine ⟨cf', Or.inl ?_, w2⟩
      unfold pm_sem
      rw [hdc]
      exact w1
  have hcut : ∀ (N : Nat), ∀ c ∈ cuts, ∀ (vs' : List Int) (cf' : Cf), ga HT RG n cx.2.2.2.1 h vs' c.1.1 cf' → (∃ ws, vs' = vs0 ++ ws) → NN (c.2.map (rk1 vs')) < N → En HT RG n cx.2.2.2.1 h vs0 me (pm_Stp MT xs d' (pm_Ex MT xs n d') me n) cx.2.2.2.2.2 cf' := by
    intro N
    induction N with
    | zero =>
      intro c hc vs' cf' gc _ hlt
      have := NN_rg (ts := c.2.map (rk1 vs')) (fun t ht => by
        obtain ⟨r, hr, rfl⟩ := List.mem_map.mp ht
        exact rkB_ok gc.2.2.2.1 (hB c hc) r hr)
      exact absurd hlt (by have := this.1; omega)
    | succ N ih =>
      intro c hc vs' cf' gc hpre hlt
      refine rn_ok (vsI := vs') hP hN (fun R hR => ?_) hB (fun c' hc' vs2 cf2 g2 hp2 hR => ih c' hc' vs2 cf2 g2 hp2 (by have := hR c.2 rfl; omega)) f c.1.1 vs' cf' gc hpre ⟨[], (List.append_nil _).symm⟩ (List.all_eq_true.mp c5 c hc)
      cases hR
      refine ⟨fun r hr => ?_, fun r hr => (rkB_ok gc.2.2.2.1 (hB c hc) r hr).1⟩
      have hb := List.all_eq_true.mp (hB c hc) r hr
      split at hb
      · rename_i p hp
        unfold iv at hp
        split at hp
        · cases hp
        · rename_i e he
          have := (List.getElem?_eq_some_iff.mp he).1
          rw [gc.2.2.2.1.1] at this
          exact ⟨_, List.getElem?_eq_getElem this⟩
      · cases hb
  have hen : En HT RG n cx.2.2.2.1 h vs0 me (pm_Stp MT xs d' (pm_Ex MT xs n d') me n) cx.2.2.2.2.2 (0, lv_args 0 av, [], h) := by
    refine rn_ok (vsI := vs0) hP hN (fun R hR => by cases hR) hB (fun c hc vs' cf' gc hp _ => hcut ((NN (c.2.map (rk1 vs'))).toNat + 1) c hc vs' cf' gc hp (by omega)) f _ vs0 _ g ⟨[], (List.append_nil _).symm⟩ ⟨[], (List.append_nil _).symm⟩ c4
  obtain ⟨N, cf', r, h', w1, w2, E, w3, vsE, w4, w5⟩ := hen
  exact ⟨r, h', E, vsE, ⟨me, hme, by omega, N, cf', w1, w2⟩, w3, w4, w5⟩
end Chk
