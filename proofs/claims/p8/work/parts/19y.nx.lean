/-! one step of the checker -/
theorem nxA_ok {HT : Nat → Hk} {RG : Nat → List Nat} {FK : Nat → Bool} {UN : Nat → Option Nat} {KC : Nat → Option Nat} {n : Nat} {MT : Nat → Option Me} {xs : Nat → Me → Cf → Cf → Prop} {EX : Op0 → Ab → Option (List Ab)} {P : Nat → Option Op0} {me : Me} {cs : Nat → List Cx} {md : Md} {lv d' : Nat} (hn : n ≤ 1000) (hU : ∀ r k0 k, UN r = some k0 → k ∈ RG r → HT k = HT k0) (hKC : ∀ k ci me', KC k = some ci → MT k = some me' → ∃ q, vwCl[ci]? = some q ∧ q.1 = me'.1.cls)
    (hEX : ∀ (d : Nat) (o : Op0) (A : Ab) (Bs : List Ab) (vs : List Int) (cf : Cf) (h0 : Ph) (ins : Instr) (len : Nat), lv ≤ d + 1 → decode me.2.1 cf.1 = .ok (ins, len) → rop me.2.2.2.2.1 me.2.2.1 cf.1 ins len = some o → o.1 = 24 → ga HT RG n md h0 vs A cf → EX o A = some Bs → ∃ cf', xs d me cf cf' ∧ ∃ B ∈ Bs, ∃ ws, ga HT RG n md h0 (vs ++ ws) B cf')
    (hP : ∀ pc o, P pc = some o → ∃ ins len, decode me.2.1 pc = .ok (ins, len) ∧ rop me.2.2.2.2.1 me.2.2.1 pc ins len = some o)
    (hc : ∀ k, ∀ c ∈ cs k, Hd HT RG n MT xs c) (hd : lv ≤ d' + 1) {h : Ph} : ∀ o A Bs vs cf, ga HT RG n md h vs A cf → P A.1 = some o → o.1 ≠ 22 → nxA HT RG FK UN KC MT EX md lv cs o A = some Bs → ∃ cf', pm_Stp MT xs d' (pm_Ex MT xs n d') me n cf cf' ∧ ∃ B ∈ Bs, ∃ ws, ga HT RG n md h (vs ++ ws) B cf' := by
  intro o A Bs vs cf gA ho h22 hx
  obtain ⟨ins, len, hdc, hr⟩ := hP A.1 o ho
  rw [← gA.1] at hdc hr
  unfold nxA at hx
  split at hx
  · rename_i h23
    split at hx
    · rename_i hst
      obtain ⟨idx, i1, i2, i3, i4⟩ := rop_inv hr h23
      subst i2
      unfold stF at hst
      split at hst
      · rename_i me' hme'
        have hst : (me'.2.2.2.2.2 == (o.2.2.2.1.toNat == 0)) = true := hst
        rw [beq_iff_eq] at hst
        obtain ⟨cf', w1, w2⟩ := callA_ok (me := me) (me' := me') (idx := idx) (d := d') (KC := KC) gA hd (hc o.2.1) (fun ci hci => hKC o.2.1 ci me' hci hme') hme' i1 (by
          rcases i4 with ⟨j1, rfl⟩ | ⟨j1, rfl⟩
          · left
            rw [j1] at hst ⊢
            exact ⟨rfl, hst, hdc⟩
          · right
            rw [j1] at hst ⊢
            exact ⟨rfl, hst, hdc⟩) i3 hx
        exact ⟨cf', Or.inr (Or.inr w1), w2⟩
      · cases hst
    · cases hx
  · rename_i h24
    obtain ⟨cf', w1, w2⟩ := hEX d' o A Bs vs cf h ins len hd hdc hr h24 gA hx
    exact ⟨cf', Or.inr (Or.inl w1), w2⟩
  · obtain ⟨cf', w1, w2⟩ := aop_ok hn hU gA hr hx
    refine ⟨cf', Or.inl ?_, w2⟩
    unfold pm_sem
    rw [hdc]
    exact w1
theorem rn_to {HT : Nat → Hk} {RG : Nat → List Nat} {n rt : Nat} {md : Md} {h0 : Ph} {vs0 : List Int} {S : Cf → Cf → Prop} {P : Nat → Option Op0} {nxt : Op0 → Ab → Option (List Ab)} {pcs : List Nat} {cuts : List (Cu × Rk)} {Q : Cf → Prop} (hQ : ∀ a b, S a b → Q b → Q a)
    (hN : ∀ o A Bs vs cf, ga HT RG n md h0 vs A cf → P A.1 = some o → o.1 ≠ 22 → nxt o A = some Bs → ∃ cf', S cf cf' ∧ ∃ B ∈ Bs, ∃ ws, ga HT RG n md h0 (vs ++ ws) B cf')
    (K : ∀ c ∈ cuts, ∀ (vs' : List Int) (cf' : Cf), ga HT RG n md h0 vs' c.1.1 cf' → (∃ ws, vs' = vs0 ++ ws) → Q cf') : ∀ (f : Nat) (A : Ab) (vs : List Int) (cf : Cf), ga HT RG n md h0 vs A cf → (∃ ws, vs = vs0 ++ ws) → rn RG P nxt vs0.length rt [] pcs cuts none f A = true → Q cf
  | 0, _, _, _, _, _, h => by cases h
  | f + 1, A, vs, cf, g, hv, h => by
    unfold rn at h
    split at h
    · cases h
    · rename_i o ho
      split at h
      · unfold exK at h
        rw [List.any_nil, Bool.and_false] at h
        cases h
      · rename_i h22
        split at h
        · cases h
        · rename_i Bs hBs
          obtain ⟨cf', hs, B, hBm, ws, gB⟩ := hN o A Bs vs cf g ho h22 hBs
          have hv' : ∃ w, vs ++ ws = vs0 ++ w := by
            obtain ⟨w, rfl⟩ := hv
            exact ⟨w ++ ws, List.append_assoc _ _ _⟩
          have hb := List.all_eq_true.mp h B hBm
          refine hQ _ _ hs ?_
          split at hb
          · obtain ⟨c, hc, hk⟩ := List.any_eq_true.mp hb
            unfold cutK at hk
            split at hk
            · rename_i m hm
              have hm := mpC_ok hm
              simp only [Bool.and_eq_true] at hk
              have gC := entM_ok gB hm hk.1.1
              obtain ⟨w0, hw0⟩ := hv'
              exact K c hc _ cf' gC (gh_pre (A := A) hw0 gC hk.1.2)
            · cases hk
          · exact rn_to hQ hN K f B _ cf' gB hv' hb
theorem hcs2 {HT : Nat → Hk} {RG : Nat → List Nat} {n : Nat} {MT : Nat → Option Me} {xs : Nat → Me → Cf → Cf → Prop} {l1 l2 : List Cx} {m : Nat} (h1 : ∀ c ∈ l1, Hd HT RG n MT xs c) (h2 : ∀ c ∈ l2, Hd HT RG n MT xs c) : ∀ k, ∀ c ∈ (if k = m then l1 else l2), Hd HT RG n MT xs c := by
  intro k
  split
  · exact h1
  · exact h2
