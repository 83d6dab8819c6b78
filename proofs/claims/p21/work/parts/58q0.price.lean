/-! a law of price, worked: the steps that the class keeps and the codes that the model keeps say the same -/
def mSmV (d : Nat) (s : Zs) : Int := if s 202 d = 21 then w32 (s 201 d - s 203 d) else w32 (s 201 d + s 203 d)
def mSm (d : Nat) (s : Zs) : Zs := zu (zu s 201 d (mSmV d s)) 204 d 0
def mTtV (d : Nat) (s : Zs) : Int := if s 200 d = 24 then (if s 199 d < mSmV d s then 1 else 0) else if s 200 d = 25 then (if s 199 d = mSmV d s then 1 else 0) else mSmV d s
def mTsV (d : Nat) (s : Zs) : Int := if s 198 d = 26 then (if s 197 d ≠ 0 ∧ mTtV d s ≠ 0 then 1 else 0) else if s 198 d = 27 then (if s 197 d ≠ 0 ∨ mTtV d s ≠ 0 then 1 else 0) else mTtV d s
def mTs (d : Nat) (s : Zs) : Zs := zu (zu (zu (zu (mSm d s) 197 d (mTsV d s)) 200 d 0) 201 d 0) 202 d 20
def mOp (d : Nat) (s : Zs) : Zs := zu (zu (zu (zu (zu s 198 d 0) 200 d 0) 201 d 0) 202 d 20) 204 d 0
def mTrm (d : Nat) (v : Int) (s : Zs) : Zs := zu s 203 d (if s 204 d = 0 then v else w32 (s 203 d * v))
def mPut : Nat → Int → Zs → Nat × Zs
  | 0, v, s => (0, mTrm 0 v s)
  | d + 1, v, s => if s 205 (d + 1) = 1 then mPut d (if v = 0 then 1 else 0) s else (d + 1, mTrm (d + 1) v s)
def mEv1 (c : Int) (x : Nat × Zs) : Nat × Zs :=
  if c = 28 ∨ c = 30 then (x.1 + 1, mOp (x.1 + 1) (zu x.2 205 (x.1 + 1) (if c = 30 then 1 else 0)))
  else if c = 20 ∨ c = 21 then (x.1, zu (mSm x.1 x.2) 202 x.1 c)
  else if c = 22 then (x.1, zu x.2 204 x.1 c)
  else if c = 24 ∨ c = 25 then (x.1, zu (zu (zu (zu (mSm x.1 x.2) 199 x.1 (mSmV x.1 x.2)) 200 x.1 c) 201 x.1 0) 202 x.1 20)
  else if c = 26 ∨ c = 27 then (x.1, zu (mTs x.1 x.2) 198 x.1 c)
  else if c = 29 then mPut (x.1 - 1) (mTsV x.1 x.2) (mTs x.1 x.2)
  else mPut x.1 (if 100 ≤ c then c - 100 else if c < 20 then x.2 206 c.toNat else 0) x.2
def mEv : List Int → Nat × Zs → Nat × Zs
  | [], x => x
  | c :: l, x => mEv l (mEv1 c x)
def mSafe : List Int → Nat × Zs → Prop
  | [], _ => True
  | c :: l, x => (c = 29 → 1 ≤ x.1) ∧ x.1 ≤ 5 ∧ mSafe l (mEv1 c x)
theorem mSafe_app : ∀ (a b : List Int) (x : Nat × Zs), mSafe a x → mSafe b (mEv a x) → mSafe (a ++ b) x
  | [], _, _, _, h => h
  | c :: a, b, x, h, k => ⟨h.1, h.2.1, mSafe_app a b (mEv1 c x) h.2.2 k⟩
theorem mEv_app : ∀ (a b : List Int) (x : Nat × Zs), mEv (a ++ b) x = mEv b (mEv a x)
  | [], _, _ => rfl
  | c :: a, b, x => mEv_app a b (mEv1 c x)
def jnd (c a b : Int) : Int := if c = -5 then (if a ≠ 0 ∧ b ≠ 0 then 1 else 0) else if c = -6 then (if a ≠ 0 ∨ b ≠ 0 then 1 else 0) else if c = -7 then (if a < b then 1 else 0) else if c = -8 then (if a = b then 1 else 0) else if c = -9 then w32 (a + b) else if c = -10 then w32 (a - b) else w32 (a * b)
def cEv1 (E : Int × Int × Int) (c : Int) (st : List Int) : List Int :=
  if -3 ≤ c ∧ st.length < 24 then (if 0 ≤ c then c else if c = -1 then E.1 else if c = -2 then E.2.1 else E.2.2) :: st
  else if c = -4 ∧ st ≠ [] then (match st with | a :: r => (if a = 0 then 1 else 0) :: r | [] => [])
  else match st with
    | b :: a :: r => jnd c a b :: r
    | q => q
def cEv (E : Int × Int × Int) : List Int → List Int → List Int
  | [], st => st
  | c :: l, st => cEv E l (cEv1 E c st)
theorem cEv_app {E : Int × Int × Int} : ∀ (a b st : List Int), cEv E (a ++ b) st = cEv E b (cEv E a st)
  | [], _, _ => rfl
  | c :: a, b, st => cEv_app a b (cEv1 E c st)
theorem w32_rg (z : Int) : -2147483648 ≤ w32 z ∧ w32 z ≤ 2147483647 := by
  have a := Int.le_bmod (x := z) (m := 4294967296) (by decide)
  have b := Int.bmod_lt (x := z) (m := 4294967296) (by decide)
  have e : w32 z = z.bmod 4294967296 := rfl
  rw [e]
  omega
def rgI (v : Int) : Prop := -2147483648 ≤ v ∧ v ≤ 2147483647
theorem rg_b {p : Prop} [Decidable p] : rgI (if p then 1 else 0) := by
  unfold rgI
  split <;> decide
theorem jnd_rg (c a b : Int) : rgI (jnd c a b) := by
  unfold jnd
  split
  · exact rg_b
  · split
    · exact rg_b
    · split
      · exact rg_b
      · split
        · exact rg_b
        · split
          · exact w32_rg _
          · split <;> exact w32_rg _
/-- but the depth's own cells from L on, and what lies deeper, all stays -/
def agD (L d : Nat) (s s' : Zs) : Prop := ∀ c j, ¬ (L ≤ c ∧ c ≤ 204 ∧ j = d) → ¬ (197 ≤ c ∧ c ≤ 205 ∧ d < j) → s' c j = s c j
theorem agD_tr {L d : Nat} {s s' s'' : Zs} (h1 : agD L d s s') (h2 : agD L d s' s'') : agD L d s s'' := fun c j a b => (h2 c j a b).trans (h1 c j a b)
theorem agD_w {L L' d : Nat} {s s' : Zs} (h : agD L d s s') (hl : L' ≤ L) : agD L' d s s' := fun c j a b => h c j (fun q => a ⟨by omega, q.2⟩) b
def ntD (d : Nat) (s : Zs) : Prop := d = 0 ∨ s 205 d ≠ 1
theorem ntD_e {L d : Nat} {s s' : Zs} (h : ntD d s) (a : agD L d s s') : ntD d s' := h.imp id (fun q => by rw [a 205 d (by omega) (by omega)]; exact q)
theorem put_nt {d : Nat} {v : Int} {s : Zs} (h : ntD d s) : mPut d v s = (d, mTrm d v s) := by
  cases d with
  | zero => rfl
  | succ d => exact if_neg (h.resolve_left (by omega))
theorem put_1 {d : Nat} {v : Int} {s : Zs} (h : s 205 (d + 1) = 1) : mPut (d + 1) v s = mPut d (if v = 0 then 1 else 0) s := if_pos h
/-- what a piece of the codes does where it is worked -/
def OKp (lv d : Nat) (g : List Int) (v : Int) (s : Zs) : Prop :=
  if lv = 4 then ∃ s', mSafe g (d, s) ∧ agD 205 d s s' ∧ mEv g (d, s) = mPut d v s'
  else if lv = 3 then ntD d s → s 204 d = 0 → ∃ s', mSafe g (d, s) ∧ mEv g (d, s) = (d, s') ∧ s' 203 d = v ∧ agD 203 d s s'
  else if lv = 2 then ntD d s → s 204 d = 0 → s 201 d = 0 → s 202 d = 20 → ∃ s', mSafe g (d, s) ∧ mEv g (d, s) = (d, s') ∧ mSmV d s' = v ∧ agD 201 d s s'
  else if lv = 1 then ntD d s → s 204 d = 0 → s 201 d = 0 → s 202 d = 20 → s 200 d = 0 → ∃ s', mSafe g (d, s) ∧ mEv g (d, s) = (d, s') ∧ mTtV d s' = v ∧ agD 199 d s s'
  else ntD d s → s 204 d = 0 → s 201 d = 0 → s 202 d = 20 → s 200 d = 0 → s 198 d = 0 → ∃ s', mSafe g (d, s) ∧ mEv g (d, s) = (d, s') ∧ mTsV d s' = v ∧ agD 197 d s s'
def env (s : Zs) : Int × Int × Int := (s 206 1, s 206 2, s 206 3)
def rgE (E : Int × Int × Int) : Prop := rgI E.1 ∧ rgI E.2.1 ∧ rgI E.2.2
/-- the codes g and the steps q say the same, on that level and so deep -/
def SEM (lv dp : Nat) (g q : List Int) : Prop := dp ≤ 4 ∧ ∀ E, rgE E → ∃ v, rgI v ∧ (∀ st : List Int, st.length + (4 * (4 - dp) + 1 + (4 - lv)) ≤ 24 → cEv E q st = v :: st) ∧ ∀ d s, d ≤ dp → env s = E → OKp lv d g v s
theorem env_e {L d : Nat} {s s' : Zs} (a : agD L d s s') : env s' = env s := by
  unfold env
  rw [a 206 1 (by omega) (by omega), a 206 2 (by omega) (by omega), a 206 3 (by omega) (by omega)]
theorem SEM_num {dp : Nat} {k : Int} (hp : dp ≤ 4) (h0 : 0 ≤ k) (h1 : k ≤ 9999) : SEM 4 dp [100 + k] [k] := ⟨hp, fun E hE => by
  refine ⟨k, ⟨by omega, by omega⟩, fun st hs => ?_, fun d s hdp _ => ?_⟩
  · show cEv1 E k st = _
    unfold cEv1
    rw [if_pos ⟨by omega, by omega⟩, if_pos h0]
  · unfold OKp
    rw [if_pos rfl]
    refine ⟨s, ⟨fun q => by omega, show d ≤ 5 by omega, True.intro⟩, fun _ _ _ _ => rfl, ?_⟩
    show mEv1 (100 + k) (d, s) = _
    unfold mEv1
    rw [if_neg (by omega), if_neg (by omega), if_neg (by omega), if_neg (by omega), if_neg (by omega), if_neg (by omega), if_pos (by omega)]
    show mPut d (100 + k - 100) s = mPut d k s
    rw [show 100 + k - 100 = k from by omega]⟩
theorem SEM_fact {dp i : Nat} (hp : dp ≤ 4) (hi : i = 1 ∨ i = 2 ∨ i = 3) : SEM 4 dp [(i : Int)] [-(i : Int)] := ⟨hp, fun E hE => by
  refine ⟨if i = 1 then E.1 else if i = 2 then E.2.1 else E.2.2, ?_, fun st hs => ?_, fun d s hdp he => ?_⟩
  · obtain ⟨a, b, c⟩ := hE
    split
    · exact a
    · split
      · exact b
      · exact c
  · show cEv1 E (-(i : Int)) st = _
    unfold cEv1
    rw [if_pos ⟨by omega, by omega⟩, if_neg (by omega)]
    rcases hi with rfl | rfl | rfl <;> rfl
  · unfold OKp
    rw [if_pos rfl]
    refine ⟨s, ⟨fun q => by omega, show d ≤ 5 by omega, True.intro⟩, fun _ _ _ _ => rfl, ?_⟩
    show mEv1 (i : Int) (d, s) = _
    unfold mEv1
    rw [if_neg (by omega), if_neg (by omega), if_neg (by omega), if_neg (by omega), if_neg (by omega), if_neg (by omega), if_neg (by omega), if_pos (by omega), Int.toNat_natCast]
    show mPut d (s 206 i) s = _
    rw [← he]
    rcases hi with rfl | rfl | rfl <;> rfl⟩
theorem cEv_not {E : Int × Int × Int} {v : Int} {st : List Int} : cEv1 E (-4) (v :: st) = (if v = 0 then 1 else 0) :: st := by
  unfold cEv1
  rw [if_neg (fun q => absurd q.1 (by decide)), if_pos ⟨rfl, List.cons_ne_nil _ _⟩]
theorem cEv_jn {E : Int × Int × Int} {a b c : Int} {st : List Int} (hc : c < -4) : cEv1 E c (b :: a :: st) = jnd c a b :: st := by
  unfold cEv1
  rw [if_neg (by omega), if_neg (by omega)]
theorem mOp_ag {d : Nat} {s : Zs} {b : Int} : agD 205 d s (mOp (d + 1) (zu s 205 (d + 1) b)) := fun c j h1 h2 => by
  unfold mOp
  rw [zu_n (by omega), zu_n (by omega), zu_n (by omega), zu_n (by omega), zu_n (by omega), zu_n (by omega)]
theorem mOp_v {d : Nat} {s : Zs} : (mOp d s) 204 d = 0 ∧ (mOp d s) 201 d = 0 ∧ (mOp d s) 202 d = 20 ∧ (mOp d s) 200 d = 0 ∧ (mOp d s) 198 d = 0 ∧ (mOp d s) 205 d = s 205 d := by
  unfold mOp
  refine ⟨zu_eq _ _ _ _, ?_, ?_, ?_, ?_, ?_⟩
  · rw [zu_n (by omega), zu_n (by omega), zu_eq]
  · rw [zu_n (by omega), zu_eq]
  · rw [zu_n (by omega), zu_n (by omega), zu_n (by omega), zu_eq]
  · rw [zu_n (by omega), zu_n (by omega), zu_n (by omega), zu_n (by omega), zu_eq]
  · rw [zu_n (by omega), zu_n (by omega), zu_n (by omega), zu_n (by omega), zu_n (by omega)]
theorem SEM_not {dp : Nat} {g q : List Int} (hd : dp < 4) (h : SEM 4 (dp + 1) g q) : SEM 4 dp (30 :: g) (q ++ [-4]) := ⟨(by omega), fun E hE => by
  obtain ⟨v, hv, hc, hm⟩ := h.2 E hE
  refine ⟨if v = 0 then 1 else 0, rg_b, fun st hs => ?_, fun d s hdp he => ?_⟩
  · rw [cEv_app, hc st (by omega)]
    exact cEv_not (E := E)
  · unfold OKp
    rw [if_pos rfl]
    have a1 := mOp_ag (d := d) (s := s) (b := 1)
    have q := hm (d + 1) (mOp (d + 1) (zu s 205 (d + 1) 1)) (by omega) ((env_e a1).trans he)
    unfold OKp at q
    rw [if_pos rfl] at q
    obtain ⟨s', sf, ag, e⟩ := q
    have b1 : s' 205 (d + 1) = 1 := by
      rw [ag 205 (d + 1) (by omega) (by omega), mOp_v.2.2.2.2.2, zu_eq]
    refine ⟨s', ⟨fun q => absurd q (by decide), show d ≤ 5 by omega, sf⟩, fun c j h1 h2 => (ag c j (by omega) (by omega)).trans (a1 c j h1 h2), ?_⟩
    have st : mEv (30 :: g) (d, s) = mEv g (d + 1, mOp (d + 1) (zu s 205 (d + 1) 1)) := rfl
    rw [st, e, put_1 b1]⟩
theorem mTs_ag {d : Nat} {s : Zs} : agD 197 d s (mTs d s) := fun c j h1 h2 => by
  unfold mTs mSm
  rw [zu_n (by omega), zu_n (by omega), zu_n (by omega), zu_n (by omega), zu_n (by omega), zu_n (by omega)]
theorem SEM_par {dp : Nat} {g q : List Int} (hd : dp < 4) (h : SEM 0 (dp + 1) g q) : SEM 4 dp (28 :: (g ++ [29])) q := ⟨(by omega), fun E hE => by
  obtain ⟨v, hv, hc, hm⟩ := h.2 E hE
  refine ⟨v, hv, fun st hs => hc st (by omega), fun d s hdp he => ?_⟩
  unfold OKp
  rw [if_pos rfl]
  have a1 := mOp_ag (d := d) (s := s) (b := 0)
  have z := mOp_v (d := d + 1) (s := zu s 205 (d + 1) 0)
  have q := hm (d + 1) (mOp (d + 1) (zu s 205 (d + 1) 0)) (by omega) ((env_e a1).trans he)
  unfold OKp at q
  rw [if_neg (by decide), if_neg (by decide), if_neg (by decide), if_neg (by decide)] at q
  obtain ⟨s', sf, e, ev, ag⟩ := q (Or.inr (by rw [z.2.2.2.2.2, zu_eq]; decide)) z.1 z.2.1 z.2.2.1 z.2.2.2.1 z.2.2.2.2.1
  have a2 := mTs_ag (d := d + 1) (s := s')
  refine ⟨mTs (d + 1) s', ⟨fun q => absurd q (by decide), show d ≤ 5 by omega, mSafe_app g [29] _ sf (by show mSafe [29] (mEv g (d + 1, mOp (d + 1) (zu s 205 (d + 1) 0))); rw [e]; exact ⟨fun _ => Nat.le_add_left 1 d, show d + 1 ≤ 5 by omega, True.intro⟩)⟩, fun c j h1 h2 => (a2 c j (by omega) (by omega)).trans ((ag c j (by omega) (by omega)).trans (a1 c j h1 h2)), ?_⟩
  have st : mEv (28 :: (g ++ [29])) (d, s) = mEv (g ++ [29]) (d + 1, mOp (d + 1) (zu s 205 (d + 1) 0)) := rfl
  rw [st, mEv_app, e]
  show mPut d (mTsV (d + 1) s') (mTs (d + 1) s') = _
  rw [ev]⟩
theorem SEM_3 {dp : Nat} {g q : List Int} (h : SEM 4 dp g q) : SEM 3 dp g q := ⟨h.1, fun E hE => by
  obtain ⟨v, hv, hc, hm⟩ := h.2 E hE
  refine ⟨v, hv, fun st hs => hc st (by omega), fun d s hdp he => ?_⟩
  have q := hm d s hdp he
  unfold OKp at q ⊢
  rw [if_pos rfl] at q
  rw [if_neg (by decide), if_pos rfl]
  intro nt h4
  obtain ⟨s', sf, ag, e⟩ := q
  have e4 : s' 204 d = 0 := (ag 204 d (by omega) (by omega)).trans h4
  refine ⟨_, sf, by rw [e, put_nt (ntD_e nt ag)], ?_, fun c j h1 h2 => ?_⟩
  · unfold mTrm
    rw [zu_eq, if_pos e4]
  · unfold mTrm
    rw [zu_n (by omega)]
    exact ag c j (by omega) h2⟩
theorem SEM_3j {dp : Nat} {g1 q1 g2 q2 : List Int} (h1 : SEM 3 dp g1 q1) (h2 : SEM 4 dp g2 q2) : SEM 3 dp (g1 ++ 22 :: g2) (q1 ++ (q2 ++ [-11])) := ⟨h1.1, fun E hE => by
  have hp4 := h1.1
  obtain ⟨v1, hv1, hc1, hm1⟩ := h1.2 E hE
  obtain ⟨v2, hv2, hc2, hm2⟩ := h2.2 E hE
  refine ⟨w32 (v1 * v2), w32_rg _, fun st hs => ?_, fun d s hdp he => ?_⟩
  · rw [cEv_app, hc1 st hs, cEv_app, hc2 (v1 :: st) (by rw [List.length_cons]; omega)]
    exact cEv_jn (E := E) (c := -11) (by decide)
  · have q1 := hm1 d s hdp he
    unfold OKp at q1 ⊢
    rw [if_neg (by decide), if_pos rfl] at q1 ⊢
    intro nt h4
    obtain ⟨s1, sf1, e1, w1, ag1⟩ := q1 nt h4
    have ag2 : agD 203 d s1 (zu s1 204 d 22) := fun c j a b => zu_n (by omega)
    have q2 := hm2 d (zu s1 204 d 22) hdp ((env_e ag2).trans ((env_e ag1).trans he))
    unfold OKp at q2
    rw [if_pos rfl] at q2
    obtain ⟨s3, sf3, ag3, e3⟩ := q2
    have st : mEv (g1 ++ 22 :: g2) (d, s) = mEv g2 (d, zu s1 204 d 22) := by rw [mEv_app, e1]; rfl
    have sf : mSafe (g1 ++ 22 :: g2) (d, s) := mSafe_app _ _ _ sf1 (by rw [e1]; exact ⟨fun q => absurd q (by decide), show d ≤ 5 by omega, sf3⟩)
    have x4 : s3 204 d = 22 := by rw [ag3 204 d (by omega) (by omega), zu_eq]
    have x3 : s3 203 d = v1 := by rw [ag3 203 d (by omega) (by omega), zu_n (by omega), w1]
    refine ⟨_, sf, by rw [st, e3, put_nt (ntD_e (ntD_e (ntD_e nt ag1) ag2) ag3)], ?_, fun c j a b => ?_⟩
    · unfold mTrm
      rw [zu_eq, if_neg (by rw [x4]; decide), x3]
    · unfold mTrm
      rw [zu_n (by omega), ag3 c j (by omega) b, ag2 c j a b, ag1 c j a b]⟩
theorem SEM_2 {dp : Nat} {g q : List Int} (h : SEM 3 dp g q) : SEM 2 dp g q := ⟨h.1, fun E hE => by
  obtain ⟨v, hv, hc, hm⟩ := h.2 E hE
  refine ⟨v, hv, fun st hs => hc st (by omega), fun d s hdp he => ?_⟩
  have q := hm d s hdp he
  unfold OKp at q ⊢
  rw [if_neg (by decide), if_pos rfl] at q
  rw [if_neg (by decide), if_neg (by decide), if_pos rfl]
  intro nt h4 h1 h2
  obtain ⟨s', sf, e, w, ag⟩ := q nt h4
  refine ⟨s', sf, e, ?_, agD_w ag (by omega)⟩
  unfold mSmV
  rw [ag 202 d (by omega) (by omega), h2, if_neg (by decide), ag 201 d (by omega) (by omega), h1, w, Int.zero_add]
  exact w32_id hv.1 hv.2⟩
theorem SEM_2j {dp : Nat} {g1 q1 g2 q2 : List Int} {c c' : Int} (hc : (c = 20 ∧ c' = -9) ∨ (c = 21 ∧ c' = -10)) (h1 : SEM 2 dp g1 q1) (h2 : SEM 3 dp g2 q2) : SEM 2 dp (g1 ++ c :: g2) (q1 ++ (q2 ++ [c'])) := ⟨h1.1, fun E hE => by
  have hp4 := h1.1
  obtain ⟨v1, hv1, hc1, hm1⟩ := h1.2 E hE
  obtain ⟨v2, hv2, hc2, hm2⟩ := h2.2 E hE
  refine ⟨jnd c' v1 v2, jnd_rg _ _ _, fun st hs => ?_, fun d s hdp he => ?_⟩
  · rw [cEv_app, hc1 st hs, cEv_app, hc2 (v1 :: st) (by rw [List.length_cons]; omega)]
    exact cEv_jn (E := E) (c := c') (by omega)
  · have q1 := hm1 d s hdp he
    unfold OKp at q1 ⊢
    rw [if_neg (by decide), if_neg (by decide), if_pos rfl] at q1 ⊢
    intro nt h4 h5 h6
    obtain ⟨s1, sf1, e1, w1, ag1⟩ := q1 nt h4 h5 h6
    have ag2 : agD 201 d s1 (zu (mSm d s1) 202 d c) := fun c j a b => by
      unfold mSm
      rw [zu_n (by omega), zu_n (by omega), zu_n (by omega)]
    have q2 := hm2 d (zu (mSm d s1) 202 d c) hdp ((env_e ag2).trans ((env_e ag1).trans he))
    unfold OKp at q2
    rw [if_neg (by decide), if_pos rfl] at q2
    have y4 : zu (mSm d s1) 202 d c 204 d = 0 := by unfold mSm; rw [zu_n (by omega), zu_eq]
    have y1 : zu (mSm d s1) 202 d c 201 d = v1 := by unfold mSm; rw [zu_n (by omega), zu_n (by omega), zu_eq, w1]
    have y2 : zu (mSm d s1) 202 d c 202 d = c := zu_eq _ _ _ _
    obtain ⟨s3, sf3, e3, w3, ag3⟩ := q2 (ntD_e (ntD_e nt ag1) ag2) y4
    have sp : mEv1 c (d, s1) = (d, zu (mSm d s1) 202 d c) := by
      unfold mEv1
      rw [if_neg (by omega), if_pos (by omega)]
    have st : mEv (g1 ++ c :: g2) (d, s) = (d, s3) := by
      rw [mEv_app, e1]
      show mEv g2 (mEv1 c (d, s1)) = _
      rw [sp, e3]
    refine ⟨s3, mSafe_app _ _ _ sf1 (by rw [e1]; exact ⟨fun q => by omega, show d ≤ 5 by omega, by rw [sp]; exact sf3⟩), st, ?_, agD_tr ag1 (agD_tr ag2 (agD_w ag3 (by omega)))⟩
    unfold mSmV
    rw [ag3 202 d (by omega) (by omega), ag3 201 d (by omega) (by omega), y1, y2, w3]
    rcases hc with ⟨rfl, rfl⟩ | ⟨rfl, rfl⟩
    · rw [if_neg (by decide)]; rfl
    · rw [if_pos rfl]; rfl⟩
theorem SEM_1 {dp : Nat} {g q : List Int} (h : SEM 2 dp g q) : SEM 1 dp g q := ⟨h.1, fun E hE => by
  obtain ⟨v, hv, hc, hm⟩ := h.2 E hE
  refine ⟨v, hv, fun st hs => hc st (by omega), fun d s hdp he => ?_⟩
  have q := hm d s hdp he
  unfold OKp at q ⊢
  rw [if_neg (by decide), if_neg (by decide), if_pos rfl] at q
  rw [if_neg (by decide), if_neg (by decide), if_neg (by decide), if_pos rfl]
  intro nt h4 h1 h2 h3
  obtain ⟨s', sf, e, w, ag⟩ := q nt h4 h1 h2
  refine ⟨s', sf, e, ?_, agD_w ag (by omega)⟩
  unfold mTtV
  rw [ag 200 d (by omega) (by omega), h3, if_neg (by decide), if_neg (by decide), w]⟩
theorem SEM_1j {dp : Nat} {g1 q1 g2 q2 : List Int} {c c' : Int} (hc : (c = 24 ∧ c' = -7) ∨ (c = 25 ∧ c' = -8)) (h1 : SEM 2 dp g1 q1) (h2 : SEM 2 dp g2 q2) : SEM 1 dp (g1 ++ c :: g2) (q1 ++ (q2 ++ [c'])) := ⟨h1.1, fun E hE => by
  have hp4 := h1.1
  obtain ⟨v1, hv1, hc1, hm1⟩ := h1.2 E hE
  obtain ⟨v2, hv2, hc2, hm2⟩ := h2.2 E hE
  refine ⟨jnd c' v1 v2, jnd_rg _ _ _, fun st hs => ?_, fun d s hdp he => ?_⟩
  · rw [cEv_app, hc1 st (by omega), cEv_app, hc2 (v1 :: st) (by rw [List.length_cons]; omega)]
    exact cEv_jn (E := E) (c := c') (by omega)
  · have q1 := hm1 d s hdp he
    unfold OKp at q1 ⊢
    rw [if_neg (by decide), if_neg (by decide), if_pos rfl] at q1
    rw [if_neg (by decide), if_neg (by decide), if_neg (by decide), if_pos rfl]
    intro nt h4 h5 h6 h7
    obtain ⟨s1, sf1, e1, w1, ag1⟩ := q1 nt h4 h5 h6
    have ag2 : agD 199 d s1 (zu (zu (zu (zu (mSm d s1) 199 d (mSmV d s1)) 200 d c) 201 d 0) 202 d 20) := fun c j a b => by
      unfold mSm
      rw [zu_n (by omega), zu_n (by omega), zu_n (by omega), zu_n (by omega), zu_n (by omega), zu_n (by omega)]
    have y : ∀ s2 : Zs, s2 = zu (zu (zu (zu (mSm d s1) 199 d (mSmV d s1)) 200 d c) 201 d 0) 202 d 20 → s2 204 d = 0 ∧ s2 201 d = 0 ∧ s2 202 d = 20 ∧ s2 199 d = v1 ∧ s2 200 d = c := fun s2 e2 => by
      subst e2
      unfold mSm
      refine ⟨?_, ?_, zu_eq _ _ _ _, ?_, ?_⟩
      · rw [zu_n (by omega), zu_n (by omega), zu_n (by omega), zu_n (by omega), zu_eq]
      · rw [zu_n (by omega), zu_eq]
      · rw [zu_n (by omega), zu_n (by omega), zu_n (by omega), zu_eq, w1]
      · rw [zu_n (by omega), zu_n (by omega), zu_eq]
    have sp : mEv1 c (d, s1) = (d, zu (zu (zu (zu (mSm d s1) 199 d (mSmV d s1)) 200 d c) 201 d 0) 202 d 20) := by
      unfold mEv1
      rw [if_neg (by omega), if_neg (by omega), if_neg (by omega), if_pos (by omega)]
    generalize zu (zu (zu (zu (mSm d s1) 199 d (mSmV d s1)) 200 d c) 201 d 0) 202 d 20 = s2 at ag2 y sp
    obtain ⟨y4, y1, y2, y9, y0⟩ := y s2 rfl
    have q2 := hm2 d s2 hdp ((env_e ag2).trans ((env_e ag1).trans he))
    unfold OKp at q2
    rw [if_neg (by decide), if_neg (by decide), if_pos rfl] at q2
    obtain ⟨s3, sf3, e3, w3, ag3⟩ := q2 (ntD_e (ntD_e nt ag1) ag2) y4 y1 y2
    have st : mEv (g1 ++ c :: g2) (d, s) = (d, s3) := by
      rw [mEv_app, e1]
      show mEv g2 (mEv1 c (d, s1)) = _
      rw [sp, e3]
    refine ⟨s3, mSafe_app _ _ _ sf1 (by rw [e1]; exact ⟨fun q => by omega, show d ≤ 5 by omega, by rw [sp]; exact sf3⟩), st, ?_, agD_tr (agD_w ag1 (by omega)) (agD_tr ag2 (agD_w ag3 (by omega)))⟩
    unfold mTtV
    rw [ag3 200 d (by omega) (by omega), ag3 199 d (by omega) (by omega), y9, y0, w3]
    rcases hc with ⟨rfl, rfl⟩ | ⟨rfl, rfl⟩
    · rw [if_pos rfl]; rfl
    · rw [if_neg (by decide), if_pos rfl]; rfl⟩
theorem SEM_0 {dp : Nat} {g q : List Int} (h : SEM 1 dp g q) : SEM 0 dp g q := ⟨h.1, fun E hE => by
  obtain ⟨v, hv, hc, hm⟩ := h.2 E hE
  refine ⟨v, hv, fun st hs => hc st (by omega), fun d s hdp he => ?_⟩
  have q := hm d s hdp he
  unfold OKp at q ⊢
  rw [if_neg (by decide), if_neg (by decide), if_neg (by decide), if_pos rfl] at q
  rw [if_neg (by decide), if_neg (by decide), if_neg (by decide), if_neg (by decide)]
  intro nt h4 h1 h2 h3 h5
  obtain ⟨s', sf, e, w, ag⟩ := q nt h4 h1 h2 h3
  refine ⟨s', sf, e, ?_, agD_w ag (by omega)⟩
  unfold mTsV
  rw [ag 198 d (by omega) (by omega), h5, if_neg (by decide), if_neg (by decide), w]⟩
theorem SEM_0j {dp : Nat} {g1 q1 g2 q2 : List Int} {c c' : Int} (hc : (c = 26 ∧ c' = -5) ∨ (c = 27 ∧ c' = -6)) (h1 : SEM 0 dp g1 q1) (h2 : SEM 1 dp g2 q2) : SEM 0 dp (g1 ++ c :: g2) (q1 ++ (q2 ++ [c'])) := ⟨h1.1, fun E hE => by
  have hp4 := h1.1
  obtain ⟨v1, hv1, hc1, hm1⟩ := h1.2 E hE
  obtain ⟨v2, hv2, hc2, hm2⟩ := h2.2 E hE
  refine ⟨jnd c' v1 v2, jnd_rg _ _ _, fun st hs => ?_, fun d s hdp he => ?_⟩
  · rw [cEv_app, hc1 st hs, cEv_app, hc2 (v1 :: st) (by rw [List.length_cons]; omega)]
    exact cEv_jn (E := E) (c := c') (by omega)
  · have q1 := hm1 d s hdp he
    unfold OKp at q1 ⊢
    rw [if_neg (by decide), if_neg (by decide), if_neg (by decide), if_neg (by decide)] at q1 ⊢
    intro nt h4 h5 h6 h7 h8
    obtain ⟨s1, sf1, e1, w1, ag1⟩ := q1 nt h4 h5 h6 h7 h8
    have ag2 : agD 197 d s1 (zu (mTs d s1) 198 d c) := fun c j a b => by
      rw [zu_n (by omega)]
      exact mTs_ag c j a b
    have y : ∀ s2 : Zs, s2 = zu (mTs d s1) 198 d c → s2 204 d = 0 ∧ s2 201 d = 0 ∧ s2 202 d = 20 ∧ s2 200 d = 0 ∧ s2 198 d = c ∧ s2 197 d = v1 := fun s2 e2 => by
      subst e2
      unfold mTs mSm
      refine ⟨?_, ?_, ?_, ?_, zu_eq _ _ _ _, ?_⟩
      · rw [zu_n (by omega), zu_n (by omega), zu_n (by omega), zu_n (by omega), zu_n (by omega), zu_eq]
      · rw [zu_n (by omega), zu_n (by omega), zu_eq]
      · rw [zu_n (by omega), zu_eq]
      · rw [zu_n (by omega), zu_n (by omega), zu_n (by omega), zu_eq]
      · rw [zu_n (by omega), zu_n (by omega), zu_n (by omega), zu_n (by omega), zu_eq, w1]
    have sp : mEv1 c (d, s1) = (d, zu (mTs d s1) 198 d c) := by
      unfold mEv1
      rw [if_neg (by omega), if_neg (by omega), if_neg (by omega), if_neg (by omega), if_pos (by omega)]
    generalize zu (mTs d s1) 198 d c = s2 at ag2 y sp
    obtain ⟨y4, y1, y2, y0, y8, y7⟩ := y s2 rfl
    have q2 := hm2 d s2 hdp ((env_e ag2).trans ((env_e ag1).trans he))
    unfold OKp at q2
    rw [if_neg (by decide), if_neg (by decide), if_neg (by decide), if_pos rfl] at q2
    obtain ⟨s3, sf3, e3, w3, ag3⟩ := q2 (ntD_e (ntD_e nt ag1) ag2) y4 y1 y2 y0
    have st : mEv (g1 ++ c :: g2) (d, s) = (d, s3) := by
      rw [mEv_app, e1]
      show mEv g2 (mEv1 c (d, s1)) = _
      rw [sp, e3]
    refine ⟨s3, mSafe_app _ _ _ sf1 (by rw [e1]; exact ⟨fun q => by omega, show d ≤ 5 by omega, by rw [sp]; exact sf3⟩), st, ?_, agD_tr ag1 (agD_tr ag2 (agD_w ag3 (by omega)))⟩
    unfold mTsV
    rw [ag3 198 d (by omega) (by omega), ag3 197 d (by omega) (by omega), y8, y7, w3]
    rcases hc with ⟨rfl, rfl⟩ | ⟨rfl, rfl⟩
    · rw [if_pos rfl]; rfl
    · rw [if_neg (by decide), if_pos rfl]; rfl⟩
