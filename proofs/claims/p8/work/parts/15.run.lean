/-! runs from cut to cut; ranks; a method checked -/
theorem rop_ret {L : Lk} {nL pc len : Nat} {ins : Instr} {o : Op0} (h : rop L nL pc ins len = some o) (h2 : o.1 = 22) : len = 1 ∧ ((ins = .ireturn ∧ o.2.2.1 = 0) ∨ (ins = .lreturn ∧ o.2.2.1 = 1) ∨ (ins = .return_ ∧ o.2.2.1 = 2)) := by
  unfold rop at h
  split at h
  all_goals first
    | (obtain ⟨rfl, rfl⟩ := gd1_ok h; first | (simp at h2; done) | exact ⟨rfl, Or.inl ⟨rfl, rfl⟩⟩ | exact ⟨rfl, Or.inr (Or.inl ⟨rfl, rfl⟩)⟩ | exact ⟨rfl, Or.inr (Or.inr ⟨rfl, rfl⟩)⟩)
    | (split at h <;> first | (obtain ⟨rfl, rfl⟩ := gd1_ok h; simp at h2; done) | (cases h; done) | (split at h <;> first | (cases h; simp at h2; done) | (cases h; done)))
    | cases h
theorem rop_inv {L : Lk} {nL pc len : Nat} {ins : Instr} {o : Op0} (h : rop L nL pc ins len = some o) (h2 : o.1 = 23) : ∃ idx, L.2.2.2 idx = some (o.2.1, o.2.2.1) ∧ len = 3 ∧ o.2.2.2.2.1 = pc + 3 ∧ ((o.2.2.2.1 = 0 ∧ ins = .invokestatic idx) ∨ (o.2.2.2.1 = 1 ∧ ins = .invokevirtual idx)) := by
  unfold rop at h
  split at h
  all_goals first
    | (obtain ⟨rfl, rfl⟩ := gd1_ok h; simp at h2; done)
    | (split at h <;> first | (obtain ⟨rfl, rfl⟩ := gd1_ok h; simp at h2; done) | (cases h; done) | (split at h <;> first | (cases h; simp at h2; done) | (cases h; done)) | (rename_i idx _ k np hl; obtain ⟨rfl, rfl⟩ := gd1_ok h; exact ⟨idx, hl, rfl, rfl, Or.inl ⟨rfl, rfl⟩⟩) | (rename_i idx _ k np hl; obtain ⟨rfl, rfl⟩ := gd1_ok h; exact ⟨idx, hl, rfl, rfl, Or.inr ⟨rfl, rfl⟩⟩))
    | cases h
abbrev Rk : Type := List (Nat × Nat × Int)
def rk1 (vs : List Int) (r : Nat × Nat × Int) : Int := match r.1 with
  | 0 => (vs[r.2.1]?).getD 0 + r.2.2
  | _ => r.2.2 - (vs[r.2.1]?).getD 0
def NN : List Int → Int
  | [] => 0
  | t :: ts => t * 8589934592 ^ ts.length + NN ts
def rkB (sy : Sy) (R : Rk) : Bool := R.all fun r => match iv sy r.2.1 0 with
  | some p => (match r.1 with
    | 0 => decide (0 ≤ p.1 + r.2.2) && decide (p.2 + r.2.2 < 8589934592)
    | _ => decide (0 ≤ r.2.2 - p.2) && decide (r.2.2 - p.1 < 8589934592))
  | none => false
theorem rkB_ok {sy : Sy} {vs : List Int} {R : Rk} (g : gs sy vs) (h : rkB sy R = true) : ∀ r ∈ R, 0 ≤ rk1 vs r ∧ rk1 vs r < 8589934592 := by
  intro r hr
  have := List.all_eq_true.mp h r hr
  split at this
  · rename_i p hp
    have hs : ∃ w, vs[r.2.1]? = some w := by
      have : r.2.1 < sy.length := by
        unfold iv at hp
        split at hp
        · cases hp
        · rename_i e he
          exact (List.getElem?_eq_some_iff.mp he).1
      rw [g.1] at this
      exact ⟨_, List.getElem?_eq_getElem this⟩
    obtain ⟨w, hw⟩ := hs
    have b := iv_ok g hp hw
    unfold rk1
    rw [hw]
    split at this
    · simp only [Bool.and_eq_true, decide_eq_true_eq] at this
      show 0 ≤ w + r.2.2 ∧ w + r.2.2 < _
      omega
    · rename_i h0
      simp only [Bool.and_eq_true, decide_eq_true_eq] at this
      show 0 ≤ r.2.2 - w ∧ r.2.2 - w < _
      omega
  · cases this
theorem NN_rg : ∀ {ts : List Int}, (∀ t ∈ ts, 0 ≤ t ∧ t < 8589934592) → 0 ≤ NN ts ∧ NN ts < 8589934592 ^ ts.length
  | [], _ => ⟨Int.le_refl 0, by decide⟩
  | t :: ts, h => by
    obtain ⟨h1, h2⟩ := NN_rg (fun x hx => h x (List.mem_cons_of_mem _ hx))
    obtain ⟨h3, h4⟩ := h t List.mem_cons_self
    have hp : (0 : Int) < 8589934592 ^ ts.length := Int.pow_pos (by decide)
    have m1 : 0 ≤ t * 8589934592 ^ ts.length := Int.mul_nonneg h3 (by omega)
    have m2 : (t + 1) * 8589934592 ^ ts.length ≤ 8589934592 * 8589934592 ^ ts.length := Int.mul_le_mul_of_nonneg_right (by omega) (by omega)
    rw [Int.add_mul, Int.one_mul] at m2
    unfold NN
    rw [List.length_cons, Int.pow_succ, Int.mul_comm (8589934592 ^ ts.length)]
    constructor <;> omega
/-- the tuple there is behind the one here: at some place less, ahead of it not more -/
def lexc (sy : Sy) (m : List (Nat × Int)) : Rk → Rk → Bool
  | r' :: t', r :: t => (match m[r'.2.1]? with
    | none => false
    | some q => match (if r.1 = 0 then dup sy q.1 r.2.1 (q.2 + r'.2.2) r.2.2 else dup sy r.2.1 q.1 (-r.2.2) (q.2 - r'.2.2)) with
      | none => false
      | some u => (r'.1 == r.1) && (decide (u ≤ -1) || (decide (u ≤ 0) && lexc sy m t' t)))
  | _, _ => false
theorem lexc_ok {sy : Sy} {vs : List Int} {m : List (Nat × Int)} (g : gs sy vs) (hm : ∀ q ∈ m, ∃ w, vs[q.1]? = some w) : ∀ {R' R : Rk}, R'.length = R.length → (∀ r ∈ R', 0 ≤ rk1 (m.map (ev vs)) r ∧ rk1 (m.map (ev vs)) r < 8589934592) → (∀ r ∈ R, ∃ w, vs[r.2.1]? = some w) → (∀ r ∈ R, 0 ≤ rk1 vs r) → lexc sy m R' R = true → NN (R'.map (rk1 (m.map (ev vs)))) < NN (R.map (rk1 vs))
  | [], _, _, _, _, _, h => by cases h
  | _ :: _, [], _, _, _, _, h => by cases h
  | r' :: t', r :: t, hl, hb, hx, hn, h => by
    have hl2 : t'.length = t.length := by simpa using hl
    unfold lexc at h
    split at h
    · cases h
    · rename_i q hq
      split at h
      · cases h
      · rename_i u hu
        simp only [Bool.and_eq_true, Bool.or_eq_true, beq_iff_eq, decide_eq_true_eq] at h
        obtain ⟨hs, h⟩ := h
        obtain ⟨wq, hwq⟩ := hm q (List.mem_of_getElem? hq)
        obtain ⟨w, hw⟩ := hx r List.mem_cons_self
        have hd : rk1 (m.map (ev vs)) r' - rk1 vs r ≤ u := by
          unfold rk1
          rw [ev_ix hq, hw, ev_eq hwq, hs]
          by_cases h0 : r.1 = 0
          · rw [if_pos h0] at hu
            rw [h0]
            have := dup_ok g hu hwq hw
            show (wq + q.2 + r'.2.2) - (w + r.2.2) ≤ u
            omega
          · rw [if_neg h0] at hu
            have := dup_ok g hu hw hwq
            split
            · rename_i h1; exact absurd h1 h0
            · show (r'.2.2 - (wq + q.2)) - (r.2.2 - w) ≤ u
              omega
        have hb2 : ∀ t0 ∈ t'.map (rk1 (m.map (ev vs))), 0 ≤ t0 ∧ t0 < 8589934592 := by
          intro t0 ht0
          obtain ⟨r0, hr0, rfl⟩ := List.mem_map.mp ht0
          exact hb r0 (List.mem_cons_of_mem _ hr0)
        obtain ⟨n1, n2⟩ := NN_rg hb2
        have hp : (0 : Int) < 8589934592 ^ t.length := Int.pow_pos (by decide)
        rw [List.length_map, hl2] at n2
        have hNt : 0 ≤ NN (t.map (rk1 vs)) := by
          have : ∀ {ts : List Int}, (∀ x ∈ ts, 0 ≤ x) → 0 ≤ NN ts := by
            intro ts
            induction ts with
            | nil => intro _; exact Int.le_refl 0
            | cons y ys ih =>
              intro hy
              have a := ih (fun x hx => hy x (List.mem_cons_of_mem _ hx))
              have b : 0 ≤ y * 8589934592 ^ ys.length := Int.mul_nonneg (hy y List.mem_cons_self) (Int.le_of_lt (Int.pow_pos (by decide)))
              show 0 ≤ y * 8589934592 ^ ys.length + NN ys
              omega
          refine this (fun x hx0 => ?_)
          obtain ⟨r0, hr0, rfl⟩ := List.mem_map.mp hx0
          exact hn r0 (List.mem_cons_of_mem _ hr0)
        simp only [List.map_cons, NN, List.length_map, hl2]
        rcases h with h | ⟨h1, h2⟩
        · have m1 : (rk1 (m.map (ev vs)) r' + 1) * 8589934592 ^ t.length ≤ rk1 vs r * 8589934592 ^ t.length := Int.mul_le_mul_of_nonneg_right (by omega) (by omega)
          rw [Int.add_mul, Int.one_mul] at m1
          omega
        · have ih := lexc_ok g hm hl2 (fun r0 h0 => hb r0 (List.mem_cons_of_mem _ h0)) (fun r0 h0 => hx r0 (List.mem_cons_of_mem _ h0)) (fun r0 h0 => hn r0 (List.mem_cons_of_mem _ h0)) h2
          have m1 : rk1 (m.map (ev vs)) r' * 8589934592 ^ t.length ≤ rk1 vs r * 8589934592 ^ t.length := Int.mul_le_mul_of_nonneg_right (by omega) (by omega)
          omega
def ghK : Nat → Nat → List (Nat × Int) → Bool
  | 0, _, _ => true
  | k + 1, i, q :: t => q.1 == i && decide (q.2 = 0) && ghK k (i + 1) t
  | _ + 1, _, [] => false
theorem ghK_ok {vs : List Int} : ∀ {k i : Nat} {m : List (Nat × Int)}, ghK k i m = true → i + k ≤ vs.length → (m.map (ev vs)).take k = (vs.drop i).take k
  | 0, i, m, _, _ => by simp
  | k + 1, i, [], h, _ => by cases h
  | k + 1, i, q :: t, h, hl => by
    unfold ghK at h
    simp only [Bool.and_eq_true, beq_iff_eq, decide_eq_true_eq] at h
    obtain ⟨⟨h1, h2⟩, h3⟩ := h
    have ih := ghK_ok (vs := vs) h3 (by omega)
    have hi : i < vs.length := by omega
    rw [List.map_cons, List.take_succ_cons, ih, List.drop_eq_getElem_cons hi, List.take_succ_cons]
    congr 1
    rw [ev_eq (w := vs[i]) (by rw [h1]; exact List.getElem?_eq_getElem hi), h2]
    exact Int.add_zero _
def exK (RG : Nat → List Nat) (g rt b : Nat) (exits : List Cu) (A : Ab) : Bool := (match b with
    | 2 => rt == 10 && A.2.2.1.isEmpty
    | 1 => rt == 1 && (match A.2.2.1 with
      | [a] => a.1 == 1
      | _ => false)
    | _ => (rt == 0 || rt == 2 || rt == 3) && (match A.2.2.1 with
      | [a] => tyK rt A.2.2.2.1 a
      | _ => false)) && exits.any fun E => match mpA (E.1.1, [], A.2.2) E.2 with
  | some m => entM RG (E.1.1, [], A.2.2) E m && ghK g 0 m
  | none => false
def rtc (ret : Option FieldType) : Nat := match ret with
  | some ty => tyc ty
  | none => 10
def cutK (RG : Nat → List Nat) (g : Nat) (st : Option Rk) (B : Ab) (c : Cu × Rk) : Bool := match mpC B c.1 with
  | some m => entM RG B c.1 m && ghK g 0 m && (match st with
    | none => true
    | some R => c.2.length == R.length && lexc B.2.2.2.1 m c.2 R)
  | none => false
def rn (RG : Nat → List Nat) (P : Nat → Option Op0) (nxt : Op0 → Ab → Option (List Ab)) (g rt : Nat) (exits : List Cu) (pcs : List Nat) (cuts : List (Cu × Rk)) (st : Option Rk) : Nat → Ab → Bool
  | 0, _ => false
  | f + 1, A => match P A.1 with
    | none => false
    | some o => if o.1 = 22 then exK RG g rt o.2.2.1 exits A else match nxt o A with
      | none => false
      | some Bs => Bs.all fun B => if pcs.any (fun p => p == B.1) = true then cuts.any (fun c => cutK RG g st B c) else rn RG P nxt g rt exits pcs cuts st f B
section Run
variable {HT : Nat → Hk} {RG : Nat → List Nat} {n : Nat} {md : Md} {h0 : Ph} {vs0 : List Int} {me : Me} {S : Cf → Cf → Prop} {P : Nat → Option Op0} {nxt : Op0 → Ab → Option (List Ab)} {exits : List Cu} {pcs : List Nat} {cuts : List (Cu × Rk)} {st : Option Rk}
def En (HT : Nat → Hk) (RG : Nat → List Nat) (n : Nat) (md : Md) (h0 : Ph) (vs0 : List Int) (me : Me) (S : Cf → Cf → Prop) (exits : List Cu) (cf : Cf) : Prop := ∃ (N : Nat) (cf' : Cf) (r : Option Value) (h' : Ph), pm_It S N cf cf' ∧ pm_res me.2.2.2.1 me.2.1 cf' = some (r, h') ∧ ∃ E ∈ exits, ∃ vsE, (∃ ws, vsE = vs0 ++ ws) ∧ ga HT RG n md h0 vsE E.1 (E.1.1, [], r.toList, h')
theorem En_stp {a b : Cf} (h : S a b) (hb : En HT RG n md h0 vs0 me S exits b) : En HT RG n md h0 vs0 me S exits a := by
  obtain ⟨N, cf', r, h', h1, h2⟩ := hb
  exact ⟨N + 1, cf', r, h', ⟨b, h, h1⟩, h2⟩
theorem gh_pre {vs ws : List Int} {m : List (Nat × Int)} {A : Ab} {C : Cu} {cf : Cf} (hv : vs = vs0 ++ ws) (gC : ga HT RG n md h0 (m.map (ev vs)) C.1 cf) (h : ghK vs0.length 0 m = true) : ∃ ws', m.map (ev vs) = vs0 ++ ws' := by
  have := ghK_ok (vs := vs) h (by subst hv; simp)
  refine ⟨(m.map (ev vs)).drop vs0.length, ?_⟩
  rw [List.drop_zero, hv, List.take_left] at this
  rw [← hv] at this
  conv => lhs; rw [← List.take_append_drop vs0.length (m.map (ev vs)), this]
theorem exK_ok {vs ws : List Int} {A : Ab} {cf : Cf} {o : Op0} {ins : Instr} {len : Nat} (g : ga HT RG n md h0 vs A cf) (hv : vs = vs0 ++ ws) (hd : decode me.2.1 cf.1 = .ok (ins, len)) (hr : rop me.2.2.2.2.1 me.2.2.1 cf.1 ins len = some o) (h2 : o.1 = 22) (h : exK RG vs0.length (rtc me.2.2.2.1) o.2.2.1 exits A = true) : En HT RG n md h0 vs0 me S exits cf := by
  obtain ⟨hl, hi⟩ := rop_ret hr h2
  subst hl
  unfold exK at h
  simp only [Bool.and_eq_true] at h
  obtain ⟨h3, h4⟩ := h
  obtain ⟨E, hE, h5⟩ := List.any_eq_true.mp h4
  split at h5
  · rename_i m hm
    simp only [Bool.and_eq_true] at h5
    have gA : ga HT RG n md h0 vs (E.1.1, [], A.2.2) (E.1.1, [], cf.2.2) := ⟨rfl, fun q hq => (by cases hq), g.2.2⟩
    have gC := entM_ok gA hm h5.1
    have gp := gh_pre (A := A) hv gC h5.2
    have key : ∀ r, pm_res me.2.2.2.1 me.2.1 cf = some (r, cf.2.2.2) → r.toList = cf.2.2.1 → En HT RG n md h0 vs0 me S exits cf := by
      intro r k1 k2
      refine ⟨0, cf, r, cf.2.2.2, rfl, k1, E, hE, _, gp, ?_⟩
      rw [k2]
      exact gC
    have g2 := g.2.2.1
    have g3 := g.2.2.2.1
    rcases hi with ⟨rfl, hb⟩ | ⟨rfl, hb⟩ | ⟨rfl, hb⟩
    · rw [hb] at h3
      simp only [Bool.and_eq_true] at h3
      obtain ⟨h6, h7⟩ := h3
      split at h7
      · rename_i a ha
        rw [ha] at g2
        obtain ⟨v, sv, e1, e2, e3⟩ := gst_cons g2
        have := gst_nil e3
        subst this
        cases hret : me.2.2.2.1 with
        | none => rw [hret] at h6; exact absurd h6 (by decide)
        | some ty =>
          rw [hret] at h7 h6
          have h7 : tyK (tyc ty) A.2.2.2.1 a = true := h7
          have ht := tyK_ok g3 e2 h7
          have ha0 : a.1 = 0 := by
            have h6 : (tyc ty == 0 || tyc ty == 2 || tyc ty == 3) = true := h6
            simp only [Bool.or_eq_true, beq_iff_eq] at h6
            rcases h6 with (h6 | h6) | h6 <;> rw [h6] at h7
            · have h7 : (a.1 == 0) = true := h7
              simpa using h7
            · have h7 : (a.1 == 0 && inI A.2.2.2.1 0 1 a) = true := h7
              simp only [Bool.and_eq_true, beq_iff_eq] at h7
              exact h7.1
            · have h7 : (a.1 == 0 && inI A.2.2.2.1 0 65535 a) = true := h7
              simp only [Bool.and_eq_true, beq_iff_eq] at h7
              exact h7.1
          obtain ⟨x, w, rfl, -, -⟩ := gv_int e2 ha0
          refine key (some (.int x)) ?_ (by rw [e1]; rfl)
          rw [hret]
          unfold pm_res
          rw [hd, e1]
          exact if_pos ⟨rfl, ht.1⟩
      · cases h7
    · rw [hb] at h3
      simp only [Bool.and_eq_true, beq_iff_eq] at h3
      obtain ⟨h6, h7⟩ := h3
      split at h7
      · rename_i a ha
        rw [ha] at g2
        obtain ⟨v, sv, e1, e2, e3⟩ := gst_cons g2
        have := gst_nil e3
        subst this
        obtain ⟨x, w, rfl, -, -⟩ := gv_long e2 (by simpa using h7)
        refine key (some (.long x)) ?_ (by rw [e1]; rfl)
        cases hret : me.2.2.2.1 with
        | none => rw [hret] at h6; exact absurd h6 (by decide)
        | some ty =>
          rw [hret] at h6
          have h6 : tyc ty = 1 := h6
          have hty : ty = .long := by
            unfold tyc at h6
            split at h6 <;> first | rfl | cases h6
          subst hty
          unfold pm_res
          rw [hd, e1]
          exact if_pos ⟨rfl, rfl⟩
      · cases h7
    · rw [hb] at h3
      simp only [Bool.and_eq_true, beq_iff_eq] at h3
      obtain ⟨h6, h7⟩ := h3
      have ha : A.2.2.1 = [] := by simpa using h7
      rw [ha] at g2
      have e1 := gst_nil g2
      refine key none ?_ (by rw [e1]; rfl)
      cases hret : me.2.2.2.1 with
      | none =>
        unfold pm_res
        rw [hd, e1]
        exact if_pos rfl
      | some ty =>
        rw [hret] at h6
        have h6 : tyc ty = 10 := h6
        exfalso
        unfold tyc at h6
        split at h6 <;> cases h6
  · cases h5
theorem rn_ok {vsI : List Int} (hP : ∀ pc o, P pc = some o → ∃ ins len, decode me.2.1 pc = .ok (ins, len) ∧ rop me.2.2.2.2.1 me.2.2.1 pc ins len = some o)
    (hN : ∀ o A Bs vs cf, ga HT RG n md h0 vs A cf → P A.1 = some o → o.1 ≠ 22 → nxt o A = some Bs → ∃ cf', S cf cf' ∧ ∃ B ∈ Bs, ∃ ws, ga HT RG n md h0 (vs ++ ws) B cf')
    (hI : ∀ R, st = some R → (∀ r ∈ R, ∃ w, vsI[r.2.1]? = some w) ∧ ∀ r ∈ R, 0 ≤ rk1 vsI r)
    (hB : ∀ c ∈ cuts, rkB c.1.1.2.2.2.1 c.2 = true)
    (K : ∀ c ∈ cuts, ∀ (vs' : List Int) (cf' : Cf), ga HT RG n md h0 vs' c.1.1 cf' → (∃ ws, vs' = vs0 ++ ws) → (∀ R, st = some R → NN (c.2.map (rk1 vs')) < NN (R.map (rk1 vsI))) → En HT RG n md h0 vs0 me S exits cf') : ∀ (f : Nat) (A : Ab) (vs : List Int) (cf : Cf), ga HT RG n md h0 vs A cf → (∃ ws, vs = vs0 ++ ws) → (∃ ws, vs = vsI ++ ws) → rn RG P nxt vs0.length (rtc me.2.2.2.1) exits pcs cuts st f A = true → En HT RG n md h0 vs0 me S exits cf
  | 0, _, _, _, _, _, _, h => by cases h
  | f + 1, A, vs, cf, g, hv, hvI, h => by
    unfold rn at h
    split at h
    · cases h
    · rename_i o ho
      obtain ⟨ins, len, hd, hr⟩ := hP A.1 o ho
      rw [← g.1] at hd hr
      split at h
      · rename_i h22
        obtain ⟨ws, hv⟩ := hv
        exact exK_ok g hv hd hr h22 h
      · rename_i h22
        split at h
        · cases h
        · rename_i Bs hBs
          obtain ⟨cf', hs, B, hBm, ws, gB⟩ := hN o A Bs vs cf g ho h22 hBs
          have hv' : ∃ w, vs ++ ws = vs0 ++ w := by
            obtain ⟨w, rfl⟩ := hv
            exact ⟨w ++ ws, List.append_assoc _ _ _⟩
          have hvI' : ∃ w, vs ++ ws = vsI ++ w := by
            obtain ⟨w, rfl⟩ := hvI
            exact ⟨w ++ ws, List.append_assoc _ _ _⟩
          have hb := List.all_eq_true.mp h B hBm
          refine En_stp hs ?_
          split at hb
          · obtain ⟨c, hc, hk⟩ := List.any_eq_true.mp hb
            unfold cutK at hk
            split at hk
            · rename_i m hm
              have hm := mpC_ok hm
              simp only [Bool.and_eq_true] at hk
              obtain ⟨⟨k1, k2⟩, k3⟩ := hk
              have gC := entM_ok gB hm k1
              have hm1 := mpA_ok gB hm
              obtain ⟨w0, hw0⟩ := hv'
              have gp := gh_pre (A := A) hw0 gC k2
              refine K c hc _ cf' gC gp (fun R hR => ?_)
              subst hR
              simp only [Bool.and_eq_true, beq_iff_eq] at k3
              obtain ⟨i1, i2⟩ := hI R rfl
              obtain ⟨wI, hwI⟩ := hvI'
              have e : R.map (rk1 vsI) = R.map (rk1 (vs ++ ws)) := by
                apply List.map_congr_left
                intro r hr
                obtain ⟨w, hw⟩ := i1 r hr
                unfold rk1
                rw [hwI, ix_app hw, hw]
              rw [e]
              refine lexc_ok gB.2.2.2.1 hm1 k3.1 (rkB_ok gC.2.2.2.1 (hB c hc)) (fun r hr => ?_) (fun r hr => ?_) k3.2
              · obtain ⟨w, hw⟩ := i1 r hr
                exact ⟨w, by rw [hwI]; exact ix_app hw⟩
              · obtain ⟨w, hw⟩ := i1 r hr
                have := i2 r hr
                unfold rk1 at this ⊢
                rw [hwI, ix_app hw]
                rw [hw] at this
                exact this
            · cases hk
          · exact rn_ok hP hN hI hB K f B _ cf' gB hv' hvI' hb
end Run
