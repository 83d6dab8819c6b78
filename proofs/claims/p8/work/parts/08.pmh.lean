/-! the pure machine: fields, arrays, constants, the static array -/
abbrev Lk : Type := (Nat → Option (Nat × Nat × FieldType × Bool)) × (Nat → Option Value) × (Nat → Bool) × (Nat → Option (Nat × Nat))
def pm_ok (own : String) (L : Lk) : Prop :=
  (∀ (idx ci j : Nat) (ty : FieldType) (fin : Bool), L.1 idx = some (ci, j, ty, fin) → ∃ (C : String) (T : u_T) (N : Nat) (ty0 : Nat → FieldType), vwCl[ci]? = some (C, T, N) ∧ (∀ w ∈ u_ws C T N, w ∈ gw) ∧ j < N ∧ Cond.fieldLink own idx (T j).1 (T j).2.1 (T j).2.2.1 ∈ gw ∧ (∀ k, k < N → parseFieldDescriptor (T k).2.2.1 = some (ty0 k)) ∧ (∀ a, a < N → ∀ b, b < N → a ≠ b → (T a).2.1 ≠ (T b).2.1) ∧ ty0 j = ty ∧ (T j).2.2.2 = fin) ∧
  (∀ (idx : Nat) (x : Int32), L.2.1 idx = some (.int x) → Cond.constant own idx x ∈ gw) ∧
  (∀ (idx : Nat) (x : Int64), L.2.1 idx = some (.long x) → Cond.constantLong own idx x ∈ gw) ∧
  (∀ (idx k : Nat), L.2.1 idx = some (.ref k) → ∃ i : Nat, i < 6 ∧ k = 1001 + i ∧ stO i = own ∧ stI i = idx) ∧
  (∀ idx : Nat, L.2.2.1 idx = true → Cond.fieldLink own idx "StairGang" "MOST" "[I" ∈ gw ∨ (own, idx) ∈ nsF)
def pm_ad (aM ad : Nat → Nat) : Prop := ∀ i : Nat, i < 13 → ad (1000 + i) = aM i
theorem pm_nar {ad : Nat → Nat} {ty : FieldType} {v : Value} (h : narrow ty v = v) : narrow ty (pm_v ad v) = pm_v ad v := by
  cases v <;> first | exact h | (cases ty <;> rfl)
theorem pm_fit {ad : Nat → Nat} {ty : FieldType} {v : Value} (h : fits ty v = true) : fits ty (pm_v ad v) = true := by
  cases v <;> first | exact h | (cases ty <;> first | rfl | exact h)
def pm_ix (i : Int32) (N : Nat) : Option Nat := if i < 0 then none else if i.toNatClampNeg < N then some i.toNatClampNeg else none
theorem pm_ix_inv {i : Int32} {N j : Nat} (h : pm_ix i N = some j) : ¬ i < 0 ∧ i.toNatClampNeg = j ∧ j < N := by
  unfold pm_ix at h
  split at h
  · cases h
  · rename_i h1
    split at h
    · rename_i h2
      cases h
      exact ⟨h1, rfl, h2⟩
    · cases h
/-- cells by their form -/
def pm_O (x : Pc) : Option (Nat × List Value) := match x with
  | .inr o => some o
  | _ => none
def pm_I (x : Pc) : Option (Nat × Nat × (Nat → Int32)) := match x with
  | .inl (t, k, .inl f) => some (t, k, f)
  | _ => none
def pm_L (x : Pc) : Option (Nat × Nat × (Nat → Int64)) := match x with
  | .inl (t, k, .inr (.inl f)) => some (t, k, f)
  | _ => none
def pm_Q (x : Pc) : Option (Nat × Nat × (Nat → Option Nat)) := match x with
  | .inl (t, k, .inr (.inr (.inr (.inr f)))) => some (t, k, f)
  | _ => none
theorem pm_O_inv {x : Pc} {o : Nat × List Value} (h : pm_O x = some o) : x = .inr o := by
  unfold pm_O at h
  split at h
  · cases h; rfl
  · cases h
theorem pm_I_inv {x : Pc} {t k : Nat} {f : Nat → Int32} (h : pm_I x = some (t, k, f)) : x = .inl (t, k, .inl f) := by
  unfold pm_I at h
  split at h
  · cases h; rfl
  · cases h
theorem pm_L_inv {x : Pc} {t k : Nat} {f : Nat → Int64} (h : pm_L x = some (t, k, f)) : x = .inl (t, k, .inr (.inl f)) := by
  unfold pm_L at h
  split at h
  · cases h; rfl
  · cases h
theorem pm_Q_inv {x : Pc} {t k : Nat} {f : Nat → Option Nat} (h : pm_Q x = some (t, k, f)) : x = .inl (t, k, .inr (.inr (.inr (.inr f)))) := by
  unfold pm_Q at h
  split at h
  · cases h; rfl
  · cases h
/-- the cell of a reference within the world -/
def pm_at? (n : Nat) (h : Ph) (k : Nat) : Option Pc := if k < n then some (h k) else none
theorem pm_at?_inv {n k : Nat} {h : Ph} {x : Pc} (q : pm_at? n h k = some x) : k < n ∧ h k = x := by
  unfold pm_at? at q
  split at q
  · rename_i hk
    exact ⟨hk, Option.some.inj q⟩
  · cases q
def pi_get (L : Lk) (n idx : Nat) (cf : Cf) : Option Cf := match cf.2.2.1 with
  | .ref k :: st => (L.1 idx).bind (fun q => (pm_at? n cf.2.2.2 k).bind (fun x => (pm_O x).bind (fun o => if o.1 = q.1 then (o.2[q.2.1]?).map (fun v => (cf.1 + 3, cf.2.1, v :: st, cf.2.2.2)) else none)))
  | _ => none
def pi_put (L : Lk) (n idx : Nat) (cf : Cf) : Option Cf := match cf.2.2.1 with
  | v :: .ref k :: st => (L.1 idx).bind (fun q => (pm_at? n cf.2.2.2 k).bind (fun x => (pm_O x).bind (fun o => if o.1 = q.1 ∧ q.2.1 < o.2.length ∧ q.2.2.2 = false ∧ narrow q.2.2.1 v = v ∧ fits q.2.2.1 v = true then some (cf.1 + 3, cf.2.1, st, pm_u cf.2.2.2 k (.inr (o.1, o.2.set q.2.1 v))) else none)))
  | _ => none
def pi_stat (L : Lk) (idx : Nat) (cf : Cf) : Option Cf := if L.2.2.1 idx = true then some (cf.1 + 3, cf.2.1, .ref 1000 :: cf.2.2.1, cf.2.2.2) else none
def pi_ldc (L : Lk) (idx len : Nat) (kd : Value → Bool) (cf : Cf) : Option Cf := (L.2.1 idx).bind (fun v => if kd v = true then some (cf.1 + len, cf.2.1, v :: cf.2.2.1, cf.2.2.2) else none)
/-- an element of an array of ints, chars, booleans (t: 0, 2, 3); of the static array -/
def pi_ald (t n : Nat) (cf : Cf) : Option Cf := match cf.2.2.1 with
  | .int i :: .ref k :: st => (pm_at? n cf.2.2.2 k).bind (fun x => (pm_I x).bind (fun q => if q.1 = t then (pm_ix i q.2.1).map (fun j => (cf.1 + 1, cf.2.1, .int (q.2.2 j) :: st, cf.2.2.2)) else none))
  | _ => none
def pi_mld (cf : Cf) : Option Cf := match cf.2.2.1 with
  | .int i :: .ref k :: st => if k = 1000 then (pm_ix i 5).map (fun j => (cf.1 + 1, cf.2.1, .int (moF j) :: st, cf.2.2.2)) else none
  | _ => none
def pi_lld (n : Nat) (cf : Cf) : Option Cf := match cf.2.2.1 with
  | .int i :: .ref k :: st => (pm_at? n cf.2.2.2 k).bind (fun x => (pm_L x).bind (fun q => if q.1 = 1 then (pm_ix i q.2.1).map (fun j => (cf.1 + 1, cf.2.1, .long (q.2.2 j) :: st, cf.2.2.2)) else none))
  | _ => none
def pi_qld (n : Nat) (cf : Cf) : Option Cf := match cf.2.2.1 with
  | .int i :: .ref k :: st => (pm_at? n cf.2.2.2 k).bind (fun x => (pm_Q x).bind (fun q => if q.1 = 4 ∨ q.1 = 5 ∨ q.1 = 6 then (pm_ix i q.2.1).bind (fun j => (q.2.2 j).map (fun r => (cf.1 + 1, cf.2.1, .ref r :: st, cf.2.2.2))) else none))
  | _ => none
def pi_ast (t n : Nat) (nr : Int32 → Int32) (cf : Cf) : Option Cf := match cf.2.2.1 with
  | .int z :: .int i :: .ref k :: st => (pm_at? n cf.2.2.2 k).bind (fun x => (pm_I x).bind (fun q => if q.1 = t then (pm_ix i q.2.1).map (fun j => (cf.1 + 1, cf.2.1, st, pm_u cf.2.2.2 k (.inl (t, q.2.1, .inl (upd q.2.2 j (nr z)))))) else none))
  | _ => none
def pi_lst (n : Nat) (cf : Cf) : Option Cf := match cf.2.2.1 with
  | .long z :: .int i :: .ref k :: st => (pm_at? n cf.2.2.2 k).bind (fun x => (pm_L x).bind (fun q => if q.1 = 1 then (pm_ix i q.2.1).map (fun j => (cf.1 + 1, cf.2.1, st, pm_u cf.2.2.2 k (.inl (1, q.2.1, .inr (.inl (vp_updL q.2.2 j z)))))) else none))
  | _ => none
def pm_N (x : Pc) : Option Nat := match x with
  | .inl (t, k, _) => if t < 7 then some k else none
  | _ => none
def pi_len (n : Nat) (cf : Cf) : Option Cf := match cf.2.2.1 with
  | .ref k :: st => if k < n then (pm_N (cf.2.2.2 k)).map (fun z => (cf.1 + 1, cf.2.1, .int (Int32.ofNat z) :: st, cf.2.2.2)) else if k = 1000 then some (cf.1 + 1, cf.2.1, .int 5 :: st, cf.2.2.2) else none
  | _ => none
section Pw2
variable {p : Program} {l : Launch} {e : Env} {R : Room} {s : State} {m : MethodId} {args : Array Value} {below : List Frame} {meth : Method} {c : Code} {Q : State → Prop}
variable {cc : ByteArray} {g : va_G} {aC : Nat → ClassId} {aM : Nat → Nat} {A : Nat → Prop} {ad : Nat → Nat} {n nL : Nat} {own : String} {cf cf' : Cf} {L : Lk}
theorem ps_getfield {len idx : Nat} (F : Fx p s m args c cc nL own g aC aM A) (hL : pm_ok own L) (hd : decode cc cf.1 = .ok (.getfield idx, len)) (h : pi_gd len 3 (pi_get L n idx cf) = some cf') (k : pm_W p l e R s m args below meth c Q g aC A ad n nL cf') : pm_W p l e R s m args below meth c Q g aC A ad n nL cf := by
  obtain ⟨rfl, h⟩ := pi_gd_inv h
  unfold pi_get at h
  split at h
  · rename_i k0 st he
    obtain ⟨⟨ci, j, ty, fin⟩, hq, h⟩ := Option.bind_eq_some_iff.mp h
    obtain ⟨x, hx, h⟩ := Option.bind_eq_some_iff.mp h
    obtain ⟨⟨ci', fs⟩, ho, h⟩ := Option.bind_eq_some_iff.mp h
    split at h
    · rename_i hci
      have hci : ci' = ci := hci
      subst hci
      obtain ⟨v, hv, rfl⟩ := Option.map_eq_some_iff.mp h
      obtain ⟨hk, hx⟩ := pm_at?_inv hx
      have hc := pm_O_inv ho
      obtain ⟨C, T, N, ty0, a1, a2, a3, a4, a5, a6, a7, a8⟩ := hL.1 idx _ _ _ _ hq
      intro H locs ls hP hD hS hl
      rw [he]
      have hat := pm_at (aC := aC) (ad := ad) (h := cf.2.2.2) hk
      rw [hx, hc] at hat
      exact xget F hP k0 hat a1 a2 j a3 a4 (v := pm_v ad v) (by rw [List.getElem?_map, hv]; rfl) hd (k H locs ls hP hD hS hl)
    · cases h
  · cases h
theorem ps_putfield {len idx : Nat} (F : Fx p s m args c cc nL own g aC aM A) (hL : pm_ok own L) (hd : decode cc cf.1 = .ok (.putfield idx, len)) (h : pi_gd len 3 (pi_put L n idx cf) = some cf') (k : pm_W p l e R s m args below meth c Q g aC A ad n nL cf') : pm_W p l e R s m args below meth c Q g aC A ad n nL cf := by
  obtain ⟨rfl, h⟩ := pi_gd_inv h
  unfold pi_put at h
  split at h
  · rename_i v k0 st he
    obtain ⟨⟨ci, j, ty, fin⟩, hq, h⟩ := Option.bind_eq_some_iff.mp h
    obtain ⟨x, hx, h⟩ := Option.bind_eq_some_iff.mp h
    obtain ⟨⟨ci', fs⟩, ho, h⟩ := Option.bind_eq_some_iff.mp h
    split at h
    · rename_i hci
      obtain ⟨hci, hj, hfin, hn, hf⟩ := hci
      have hci : ci' = ci := hci
      subst hci
      cases h
      obtain ⟨hk, hx⟩ := pm_at?_inv hx
      have hc := pm_O_inv ho
      obtain ⟨C, T, N, ty0, a1, a2, a3, a4, a5, a6, a7, a8⟩ := hL.1 idx _ _ _ _ hq
      have hfin : fin = false := hfin
      subst hfin
      intro H locs ls hP hD hS hl
      rw [he]
      have hat := pm_at (aC := aC) (ad := ad) (h := cf.2.2.2) hk
      rw [hx, hc] at hat
      refine xput F hP hD hS k0 hat a1 a2 a5 a6 j a3 a4 a8 (v := pm_v ad v) (by rw [a7]; exact pm_nar hn) (by rw [a7]; exact pm_fit hf) (by rw [List.length_map]; exact hj) hd (fun H1 locs1 hP1 hD1 hS1 => ?_)
      have e1 : (pm_w aC ad n cf.2.2.2).set k0 (ad k0, .inr (ci', (fs.map (pm_v ad)).set j (pm_v ad v))) = pm_w aC ad n (pm_u cf.2.2.2 k0 (.inr (ci', fs.set j v))) := by
        rw [← pm_set]
        show _ = (pm_w aC ad n cf.2.2.2).set k0 (ad k0, .inr (ci', (fs.set j v).map (pm_v ad)))
        rw [List.map_set]
      rw [e1] at hP1 hD1
      exact k H1 locs1 ls hP1 hD1 hS1 hl
    · cases h
  · cases h
theorem ps_getstatic {len idx : Nat} (F : Fx p s m args c cc nL own g aC aM A) (hL : pm_ok own L) (had : pm_ad aM ad) (hd : decode cc cf.1 = .ok (.getstatic idx, len)) (h : pi_gd len 3 (pi_stat L idx cf) = some cf') (k : pm_W p l e R s m args below meth c Q g aC A ad n nL cf') : pm_W p l e R s m args below meth c Q g aC A ad n nL cf := by
  obtain ⟨rfl, h⟩ := pi_gd_inv h
  unfold pi_stat at h
  split at h
  · rename_i hi
    cases h
    intro H locs ls hP hD hS hl
    have kk := k H locs ls hP hD hS hl
    have e0 : pm_v ad (.ref 1000) = .ref (aM 0) := congrArg Value.ref (had 0 (by decide))
    simp only [List.map_cons, e0] at kk
    rcases hL.2.2.2.2 idx hi with h1 | h1
    · exact xmost F hS h1 hd kk
    · exact xmostN F hS h1 hd kk
  · cases h
theorem ps_ldc {len idx : Nat} (F : Fx p s m args c cc nL own g aC aM A) (hL : pm_ok own L) (had : pm_ad aM ad) (hd : decode cc cf.1 = .ok (.ldc idx, len)) (h : pi_gd len 2 (pi_ldc L idx 2 (fun v => pm_isI v || pm_isR v) cf) = some cf') (k : pm_W p l e R s m args below meth c Q g aC A ad n nL cf') : pm_W p l e R s m args below meth c Q g aC A ad n nL cf := by
  obtain ⟨rfl, h⟩ := pi_gd_inv h
  obtain ⟨v, hv, h⟩ := Option.bind_eq_some_iff.mp h
  split at h
  · rename_i hi
    cases h
    intro H locs ls hP hD hS hl
    have kk := k H locs ls hP hD hS hl
    cases v with
    | int x => exact lv_ldc F.1 F.2.1 F.2.2.2.1 (F.2.2.2.2.1 _ (hL.2.1 idx x hv)) hd kk
    | ref z =>
      obtain ⟨i, hi6, rfl, e1, e2⟩ := hL.2.2.2.1 idx z hv
      have e0 : pm_v ad (.ref (1001 + i)) = .ref (aM (1 + i)) := congrArg Value.ref (by rw [← had (1 + i) (by omega)]; congr 1; omega)
      simp only [List.map_cons, e0] at kk
      have hZ := F.2.2.2.2.2.2.2.2.2.2.2.2.2 i hi6
      rw [e1, e2] at hZ
      exact va_ldcS F.1 F.2.1 F.2.2.2.1 hZ hd kk
    | _ => exact absurd (show false = true from hi) (by decide)
  · cases h
theorem ps_ldc_w {len idx : Nat} (F : Fx p s m args c cc nL own g aC aM A) (hL : pm_ok own L) (hd : decode cc cf.1 = .ok (.ldc_w idx, len)) (h : pi_gd len 3 (pi_ldc L idx 3 pm_isI cf) = some cf') (k : pm_W p l e R s m args below meth c Q g aC A ad n nL cf') : pm_W p l e R s m args below meth c Q g aC A ad n nL cf := by
  obtain ⟨rfl, h⟩ := pi_gd_inv h
  obtain ⟨v, hv, h⟩ := Option.bind_eq_some_iff.mp h
  split at h
  · rename_i hi
    cases h
    intro H locs ls hP hD hS hl
    have kk := k H locs ls hP hD hS hl
    cases v with
    | int x => exact lv_ldcw F.1 F.2.1 F.2.2.2.1 (F.2.2.2.2.1 _ (hL.2.1 idx x hv)) hd kk
    | _ => exact absurd (show false = true from hi) (by decide)
  · cases h
theorem ps_ldc2_w {len idx : Nat} (F : Fx p s m args c cc nL own g aC aM A) (hL : pm_ok own L) (hd : decode cc cf.1 = .ok (.ldc2_w idx, len)) (h : pi_gd len 3 (pi_ldc L idx 3 pm_isL cf) = some cf') (k : pm_W p l e R s m args below meth c Q g aC A ad n nL cf') : pm_W p l e R s m args below meth c Q g aC A ad n nL cf := by
  obtain ⟨rfl, h⟩ := pi_gd_inv h
  obtain ⟨v, hv, h⟩ := Option.bind_eq_some_iff.mp h
  split at h
  · rename_i hi
    cases h
    intro H locs ls hP hD hS hl
    have kk := k H locs ls hP hD hS hl
    cases v with
    | long x => exact lv_ldc2 F.1 F.2.1 F.2.2.2.1 (F.2.2.2.2.1 _ (hL.2.2.1 idx x hv)) hd kk
    | _ => exact absurd (show false = true from hi) (by decide)
  · cases h
theorem ps_iaload {len : Nat} (F : Fx p s m args c cc nL own g aC aM A) (hd : decode cc cf.1 = .ok (.iaload, len)) (h : pi_gd len 1 (pi_ald 0 n cf) = some cf') (k : pm_W p l e R s m args below meth c Q g aC A ad n nL cf') : pm_W p l e R s m args below meth c Q g aC A ad n nL cf := by
  obtain ⟨rfl, h⟩ := pi_gd_inv h
  unfold pi_ald at h
  split at h
  · rename_i i k0 st he
    obtain ⟨x, hx, h⟩ := Option.bind_eq_some_iff.mp h
    obtain ⟨⟨t, N, f⟩, ho, h⟩ := Option.bind_eq_some_iff.mp h
    split at h
    · rename_i ht
      have ht : t = 0 := ht
      subst ht
      obtain ⟨j, hj, rfl⟩ := Option.map_eq_some_iff.mp h
      obtain ⟨hk, hx⟩ := pm_at?_inv hx
      have hc := pm_I_inv ho
      obtain ⟨j0, j1, j2⟩ := pm_ix_inv hj
      intro H locs ls hP hD hS hl
      rw [he]
      have hat := pm_at (aC := aC) (ad := ad) (h := cf.2.2.2) hk
      rw [hx, hc] at hat
      exact xilo F hP k0 hat j j0 j1 j2 rfl hd (k H locs ls hP hD hS hl)
    · cases h
  · cases h
theorem ps_caload {len : Nat} (F : Fx p s m args c cc nL own g aC aM A) (hd : decode cc cf.1 = .ok (.caload, len)) (h : pi_gd len 1 (pi_ald 2 n cf) = some cf') (k : pm_W p l e R s m args below meth c Q g aC A ad n nL cf') : pm_W p l e R s m args below meth c Q g aC A ad n nL cf := by
  obtain ⟨rfl, h⟩ := pi_gd_inv h
  unfold pi_ald at h
  split at h
  · rename_i i k0 st he
    obtain ⟨x, hx, h⟩ := Option.bind_eq_some_iff.mp h
    obtain ⟨⟨t, N, f⟩, ho, h⟩ := Option.bind_eq_some_iff.mp h
    split at h
    · rename_i ht
      have ht : t = 2 := ht
      subst ht
      obtain ⟨j, hj, rfl⟩ := Option.map_eq_some_iff.mp h
      obtain ⟨hk, hx⟩ := pm_at?_inv hx
      have hc := pm_I_inv ho
      obtain ⟨j0, j1, j2⟩ := pm_ix_inv hj
      intro H locs ls hP hD hS hl
      rw [he]
      have hat := pm_at (aC := aC) (ad := ad) (h := cf.2.2.2) hk
      rw [hx, hc] at hat
      exact xclo F hP k0 hat j j0 j1 j2 rfl hd (k H locs ls hP hD hS hl)
    · cases h
  · cases h
theorem ps_baload {len : Nat} (F : Fx p s m args c cc nL own g aC aM A) (hd : decode cc cf.1 = .ok (.baload, len)) (h : pi_gd len 1 (pi_ald 3 n cf) = some cf') (k : pm_W p l e R s m args below meth c Q g aC A ad n nL cf') : pm_W p l e R s m args below meth c Q g aC A ad n nL cf := by
  obtain ⟨rfl, h⟩ := pi_gd_inv h
  unfold pi_ald at h
  split at h
  · rename_i i k0 st he
    obtain ⟨x, hx, h⟩ := Option.bind_eq_some_iff.mp h
    obtain ⟨⟨t, N, f⟩, ho, h⟩ := Option.bind_eq_some_iff.mp h
    split at h
    · rename_i ht
      have ht : t = 3 := ht
      subst ht
      obtain ⟨j, hj, rfl⟩ := Option.map_eq_some_iff.mp h
      obtain ⟨hk, hx⟩ := pm_at?_inv hx
      have hc := pm_I_inv ho
      obtain ⟨j0, j1, j2⟩ := pm_ix_inv hj
      intro H locs ls hP hD hS hl
      rw [he]
      have hat := pm_at (aC := aC) (ad := ad) (h := cf.2.2.2) hk
      rw [hx, hc] at hat
      exact xzlo F hP k0 hat j j0 j1 j2 rfl hd (k H locs ls hP hD hS hl)
    · cases h
  · cases h
theorem ps_mld {len : Nat} (F : Fx p s m args c cc nL own g aC aM A) (had : pm_ad aM ad) (hd : decode cc cf.1 = .ok (.iaload, len)) (h : pi_gd len 1 (pi_mld cf) = some cf') (k : pm_W p l e R s m args below meth c Q g aC A ad n nL cf') : pm_W p l e R s m args below meth c Q g aC A ad n nL cf := by
  obtain ⟨rfl, h⟩ := pi_gd_inv h
  unfold pi_mld at h
  split at h
  · rename_i i k0 st he
    split at h
    · rename_i hk
      subst hk
      obtain ⟨j, hj, rfl⟩ := Option.map_eq_some_iff.mp h
      obtain ⟨j0, j1, j2⟩ := pm_ix_inv hj
      intro H locs ls hP hD hS hl
      rw [he]
      have e0 : pm_v ad (.ref 1000) = .ref (aM 0) := congrArg Value.ref (had 0 (by decide))
      rw [List.map_cons, List.map_cons, e0]
      exact xmolo F hS j j0 j1 j2 rfl hd (k H locs ls hP hD hS hl)
    · cases h
  · cases h
theorem ps_laload {len : Nat} (F : Fx p s m args c cc nL own g aC aM A) (hd : decode cc cf.1 = .ok (.laload, len)) (h : pi_gd len 1 (pi_lld n cf) = some cf') (k : pm_W p l e R s m args below meth c Q g aC A ad n nL cf') : pm_W p l e R s m args below meth c Q g aC A ad n nL cf := by
  obtain ⟨rfl, h⟩ := pi_gd_inv h
  unfold pi_lld at h
  split at h
  · rename_i i k0 st he
    obtain ⟨x, hx, h⟩ := Option.bind_eq_some_iff.mp h
    obtain ⟨⟨t, N, f⟩, ho, h⟩ := Option.bind_eq_some_iff.mp h
    split at h
    · rename_i ht
      have ht : t = 1 := ht
      subst ht
      obtain ⟨j, hj, rfl⟩ := Option.map_eq_some_iff.mp h
      obtain ⟨hk, hx⟩ := pm_at?_inv hx
      have hc := pm_L_inv ho
      obtain ⟨j0, j1, j2⟩ := pm_ix_inv hj
      intro H locs ls hP hD hS hl
      rw [he]
      have hat := pm_at (aC := aC) (ad := ad) (h := cf.2.2.2) hk
      rw [hx, hc] at hat
      exact xllo F hP k0 hat j j0 j1 j2 rfl hd (k H locs ls hP hD hS hl)
    · cases h
  · cases h
theorem ps_aaload {len : Nat} (F : Fx p s m args c cc nL own g aC aM A) (hd : decode cc cf.1 = .ok (.aaload, len)) (h : pi_gd len 1 (pi_qld n cf) = some cf') (k : pm_W p l e R s m args below meth c Q g aC A ad n nL cf') : pm_W p l e R s m args below meth c Q g aC A ad n nL cf := by
  obtain ⟨rfl, h⟩ := pi_gd_inv h
  unfold pi_qld at h
  split at h
  · rename_i i k0 st he
    obtain ⟨x, hx, h⟩ := Option.bind_eq_some_iff.mp h
    obtain ⟨⟨t, N, f⟩, ho, h⟩ := Option.bind_eq_some_iff.mp h
    split at h
    · rename_i ht
      obtain ⟨j, hj, h⟩ := Option.bind_eq_some_iff.mp h
      obtain ⟨r, hr, rfl⟩ := Option.map_eq_some_iff.mp h
      obtain ⟨hk, hx⟩ := pm_at?_inv hx
      have hc := pm_Q_inv ho
      obtain ⟨j0, j1, j2⟩ := pm_ix_inv hj
      intro H locs ls hP hD hS hl
      rw [he]
      have hat := pm_at (aC := aC) (ad := ad) (h := cf.2.2.2) hk
      rw [hx, hc] at hat
      have hr2 : (f j).map ad = some (ad r) := by
        have hr : f j = some r := hr
        rw [hr]; rfl
      have kk := k H locs ls hP hD hS hl
      rcases ht with ht | ht | ht
      · have ht : t = 4 := ht
        subst ht
        exact xqlo F hP k0 4 hat rfl j j0 j1 j2 hr2 hd kk
      · have ht : t = 5 := ht
        subst ht
        exact xqlo F hP k0 5 hat rfl j j0 j1 j2 hr2 hd kk
      · have ht : t = 6 := ht
        subst ht
        exact xrlo F hP k0 hat j j0 j1 j2 hr2 hd kk
    · cases h
  · cases h
theorem ps_iastore {len : Nat} (F : Fx p s m args c cc nL own g aC aM A) (hd : decode cc cf.1 = .ok (.iastore, len)) (h : pi_gd len 1 (pi_ast 0 n (fun z => z) cf) = some cf') (k : pm_W p l e R s m args below meth c Q g aC A ad n nL cf') : pm_W p l e R s m args below meth c Q g aC A ad n nL cf := by
  obtain ⟨rfl, h⟩ := pi_gd_inv h
  unfold pi_ast at h
  split at h
  · rename_i z i k0 st he
    obtain ⟨x, hx, h⟩ := Option.bind_eq_some_iff.mp h
    obtain ⟨⟨t, N, f⟩, ho, h⟩ := Option.bind_eq_some_iff.mp h
    split at h
    · rename_i ht
      have ht : t = 0 := ht
      subst ht
      obtain ⟨j, hj, rfl⟩ := Option.map_eq_some_iff.mp h
      obtain ⟨hk, hx⟩ := pm_at?_inv hx
      have hc := pm_I_inv ho
      obtain ⟨j0, j1, j2⟩ := pm_ix_inv hj
      intro H locs ls hP hD hS hl
      rw [he]
      have hat := pm_at (aC := aC) (ad := ad) (h := cf.2.2.2) hk
      rw [hx, hc] at hat
      refine xist F hP hD hS k0 hat j j0 j1 j2 rfl hd (fun H1 locs1 hP1 hD1 hS1 => ?_)
      have e1 := pm_set (aC := aC) (ad := ad) (n := n) (k := k0) (h := cf.2.2.2) (x := .inl (0, N, .inl (upd f j ((fun z => z) z))))
      exact k H1 locs1 ls (e1 ▸ hP1) (e1 ▸ hD1) hS1 hl
    · cases h
  · cases h
theorem ps_castore {len : Nat} (F : Fx p s m args c cc nL own g aC aM A) (hd : decode cc cf.1 = .ok (.castore, len)) (h : pi_gd len 1 (pi_ast 2 n (vp_nar .char) cf) = some cf') (k : pm_W p l e R s m args below meth c Q g aC A ad n nL cf') : pm_W p l e R s m args below meth c Q g aC A ad n nL cf := by
  obtain ⟨rfl, h⟩ := pi_gd_inv h
  unfold pi_ast at h
  split at h
  · rename_i z i k0 st he
    obtain ⟨x, hx, h⟩ := Option.bind_eq_some_iff.mp h
    obtain ⟨⟨t, N, f⟩, ho, h⟩ := Option.bind_eq_some_iff.mp h
    split at h
    · rename_i ht
      have ht : t = 2 := ht
      subst ht
      obtain ⟨j, hj, rfl⟩ := Option.map_eq_some_iff.mp h
      obtain ⟨hk, hx⟩ := pm_at?_inv hx
      have hc := pm_I_inv ho
      obtain ⟨j0, j1, j2⟩ := pm_ix_inv hj
      intro H locs ls hP hD hS hl
      rw [he]
      have hat := pm_at (aC := aC) (ad := ad) (h := cf.2.2.2) hk
      rw [hx, hc] at hat
      refine xcst F hP hD hS k0 hat j j0 j1 j2 rfl hd (fun H1 locs1 hP1 hD1 hS1 => ?_)
      have e1 := pm_set (aC := aC) (ad := ad) (n := n) (k := k0) (h := cf.2.2.2) (x := .inl (2, N, .inl (upd f j ((vp_nar .char) z))))
      exact k H1 locs1 ls (e1 ▸ hP1) (e1 ▸ hD1) hS1 hl
    · cases h
  · cases h
theorem ps_bastore {len : Nat} (F : Fx p s m args c cc nL own g aC aM A) (hd : decode cc cf.1 = .ok (.bastore, len)) (h : pi_gd len 1 (pi_ast 3 n (vp_nar .boolean) cf) = some cf') (k : pm_W p l e R s m args below meth c Q g aC A ad n nL cf') : pm_W p l e R s m args below meth c Q g aC A ad n nL cf := by
  obtain ⟨rfl, h⟩ := pi_gd_inv h
  unfold pi_ast at h
  split at h
  · rename_i z i k0 st he
    obtain ⟨x, hx, h⟩ := Option.bind_eq_some_iff.mp h
    obtain ⟨⟨t, N, f⟩, ho, h⟩ := Option.bind_eq_some_iff.mp h
    split at h
    · rename_i ht
      have ht : t = 3 := ht
      subst ht
      obtain ⟨j, hj, rfl⟩ := Option.map_eq_some_iff.mp h
      obtain ⟨hk, hx⟩ := pm_at?_inv hx
      have hc := pm_I_inv ho
      obtain ⟨j0, j1, j2⟩ := pm_ix_inv hj
      intro H locs ls hP hD hS hl
      rw [he]
      have hat := pm_at (aC := aC) (ad := ad) (h := cf.2.2.2) hk
      rw [hx, hc] at hat
      refine xzst F hP hD hS k0 hat j j0 j1 j2 rfl hd (fun H1 locs1 hP1 hD1 hS1 => ?_)
      have e1 := pm_set (aC := aC) (ad := ad) (n := n) (k := k0) (h := cf.2.2.2) (x := .inl (3, N, .inl (upd f j ((vp_nar .boolean) z))))
      exact k H1 locs1 ls (e1 ▸ hP1) (e1 ▸ hD1) hS1 hl
    · cases h
  · cases h
theorem ps_lastore {len : Nat} (F : Fx p s m args c cc nL own g aC aM A) (hd : decode cc cf.1 = .ok (.lastore, len)) (h : pi_gd len 1 (pi_lst n cf) = some cf') (k : pm_W p l e R s m args below meth c Q g aC A ad n nL cf') : pm_W p l e R s m args below meth c Q g aC A ad n nL cf := by
  obtain ⟨rfl, h⟩ := pi_gd_inv h
  unfold pi_lst at h
  split at h
  · rename_i z i k0 st he
    obtain ⟨x, hx, h⟩ := Option.bind_eq_some_iff.mp h
    obtain ⟨⟨t, N, f⟩, ho, h⟩ := Option.bind_eq_some_iff.mp h
    split at h
    · rename_i ht
      have ht : t = 1 := ht
      subst ht
      obtain ⟨j, hj, rfl⟩ := Option.map_eq_some_iff.mp h
      obtain ⟨hk, hx⟩ := pm_at?_inv hx
      have hc := pm_L_inv ho
      obtain ⟨j0, j1, j2⟩ := pm_ix_inv hj
      intro H locs ls hP hD hS hl
      rw [he]
      have hat := pm_at (aC := aC) (ad := ad) (h := cf.2.2.2) hk
      rw [hx, hc] at hat
      refine xlst F hP hD hS k0 hat j j0 j1 j2 rfl hd (fun H1 locs1 hP1 hD1 hS1 => ?_)
      have e1 := pm_set (aC := aC) (ad := ad) (n := n) (k := k0) (h := cf.2.2.2) (x := .inl (1, N, .inr (.inl (vp_updL f j z))))
      exact k H1 locs1 ls (e1 ▸ hP1) (e1 ▸ hD1) hS1 hl
    · cases h
  · cases h
theorem pm_ty7 (aC : Nat → ClassId) {t : Nat} (h : t < 7) : ∃ ty : FieldType, (aTys aC)[t]? = some (aC t, ty) := by
  match t, h with
  | 0, _ => exact ⟨_, rfl⟩
  | 1, _ => exact ⟨_, rfl⟩
  | 2, _ => exact ⟨_, rfl⟩
  | 3, _ => exact ⟨_, rfl⟩
  | 4, _ => exact ⟨_, rfl⟩
  | 5, _ => exact ⟨_, rfl⟩
  | 6, _ => exact ⟨_, rfl⟩
  | _ + 7, h => exact absurd h (by omega)
theorem pm_N_inv {aC ad : Nat → Nat} {x : Pc} {z : Nat} (h : pm_N x = some z) : ∃ (t : Nat) (y : vp_A), t < 7 ∧ pm_e aC ad x = .inl (aC t, y) ∧ y.1 = z := by
  unfold pm_N at h
  split at h
  · rename_i t k y
    split at h
    · rename_i ht
      cases h
      rcases y with f | f | f | f | f
      · exact ⟨t, _, ht, rfl, rfl⟩
      · exact ⟨t, _, ht, rfl, rfl⟩
      · exact ⟨t, _, ht, rfl, rfl⟩
      · exact ⟨t, _, ht, rfl, rfl⟩
      · exact ⟨t, _, ht, rfl, rfl⟩
    · cases h
  · cases h
theorem ps_arraylength {len : Nat} (F : Fx p s m args c cc nL own g aC aM A) (had : pm_ad aM ad) (hd : decode cc cf.1 = .ok (.arraylength, len)) (h : pi_gd len 1 (pi_len n cf) = some cf') (k : pm_W p l e R s m args below meth c Q g aC A ad n nL cf') : pm_W p l e R s m args below meth c Q g aC A ad n nL cf := by
  obtain ⟨rfl, h⟩ := pi_gd_inv h
  unfold pi_len at h
  split at h
  · rename_i k0 st he
    split at h
    · rename_i hk
      obtain ⟨z, hz, rfl⟩ := Option.map_eq_some_iff.mp h
      obtain ⟨t, y, ht, hy, rfl⟩ := pm_N_inv (aC := aC) (ad := ad) hz
      obtain ⟨ty, hty⟩ := pm_ty7 aC ht
      intro H locs ls hP hD hS hl
      rw [he]
      have hat := pm_at (aC := aC) (ad := ad) (h := cf.2.2.2) hk
      rw [hy] at hat
      exact xlen F hP k0 t hat hty rfl hd (k H locs ls hP hD hS hl)
    · split at h
      · rename_i hk
        subst hk
        cases h
        intro H locs ls hP hD hS hl
        rw [he]
        have e0 : pm_v ad (.ref 1000) = .ref (aM 0) := congrArg Value.ref (had 0 (by decide))
        rw [List.map_cons, e0]
        exact xmolen F hS hd (k H locs ls hP hD hS hl)
      · cases h
  · cases h
end Pw2
