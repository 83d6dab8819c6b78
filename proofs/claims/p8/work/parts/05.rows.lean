section Rw
variable {p : Program} {l : Launch} {e : Env} {R : Room} {s : State} {m : MethodId} {args : Array Value} {below : List Frame} {meth : Method} {c : Code} {H : Heap} {locs : List Loc} {cells slots : Nat} {Q : State → Prop}
variable {cc : ByteArray} {pc : Nat} {ls : Array Slot} {rest : List Value} {g : va_G} {aC : Nat → ClassId} {aM : Nat → Nat} {A : Nat → Prop} {nL : Nat} {own : String} {ws : va_W} {a : Nat}
theorem vpin {i : Int32} {n j : Nat} (h0 : ¬ i < 0) (hi : i.toNatClampNeg = j) (hj : j < n) : vp_in i n := by
  unfold vp_in
  rintro (h | h)
  · exact h0 h
  · omega
theorem xget (F : Fx p s m args c cc nL own g aC aM A) (hP : va_P g vwCl ws H) (q0 : Nat) {ci : Nat} {fs : List Value} {C : String} {T : u_T} {N index : Nat} (he : ws[q0]? = some (a, .inr (ci, fs))) (hc : vwCl[ci]? = some (C, T, N)) (hin : ∀ w ∈ u_ws C T N, w ∈ gw) (k : Nat) (hk : k < N) (hl : Cond.fieldLink own index (T k).1 (T k).2.1 (T k).2.2.1 ∈ gw) {v : Value} (hv : fs[k]? = some v) (hdg : decode cc pc = .ok (.getfield index, 3))
    (kk : W p l e R s m args below meth c H locs cells slots Q (F0 m (pc + 3) ls (v :: rest))) : W p l e R s m args below meth c H locs cells slots Q (F0 m pc ls (.ref a :: rest)) := by
  obtain ⟨hx, hb, hml, hown, hts, hK, hAA, hM, hM2⟩ := F
  exact va_get (D := g) hx hb hts hin hown hK hP q0 he hc k hk (hts _ hl) (fun _ h9 => h9) hv hdg kk
theorem xput (F : Fx p s m args c cc nL own g aC aM A) (hP : va_P g vwCl ws H) (hD : va_D A ws) (hS : va_S A s.heap H locs) (q0 : Nat) {ci : Nat} {fs : List Value} {C : String} {T : u_T} {N index : Nat} (he : ws[q0]? = some (a, .inr (ci, fs))) (hc : vwCl[ci]? = some (C, T, N)) (hin : ∀ w ∈ u_ws C T N, w ∈ gw) {ty0 : Nat → FieldType} (hty : ∀ k, k < N → parseFieldDescriptor (T k).2.2.1 = some (ty0 k)) (hnm : ∀ a, a < N → ∀ b, b < N → a ≠ b → (T a).2.1 ≠ (T b).2.1) (k : Nat) (hk : k < N) (hl : Cond.fieldLink own index (T k).1 (T k).2.1 (T k).2.2.1 ∈ gw) (hfin : (T k).2.2.2 = false) {v : Value} (hn : narrow (ty0 k) v = v) (hfit : fits (ty0 k) v = true) (hlen : k < fs.length) (hdg : decode cc pc = .ok (.putfield index, 3))
    (kk : ∀ (H1 : Heap) (locs1 : List Loc), va_P g vwCl (ws.set q0 (a, .inr (ci, fs.set k v))) H1 → va_D A (ws.set q0 (a, .inr (ci, fs.set k v))) → va_S A s.heap H1 locs1 → W p l e R s m args below meth c H1 locs1 cells slots Q (F0 m (pc + 3) ls rest)) : W p l e R s m args below meth c H locs cells slots Q (F0 m pc ls (v :: .ref a :: rest)) := by
  obtain ⟨hx, hb, hml, hown, hts, hK, hAA, hM, hM2⟩ := F
  exact va_put (D := g) hx hb hts hin ty0 hty hnm hown hK hP hD hS q0 he hc k hk (hts _ hl) (fun _ h9 => h9) hfin (hty k hk) hn hfit hlen hdg kk
theorem xputF (F : Fx p s m args c cc nL own g aC aM A) (hP : va_P g vwCl ws H) (hD : va_D A ws) (hS : va_S A s.heap H locs) (q0 : Nat) {ci : Nat} {fs : List Value} {C : String} {T : u_T} {N index : Nat} (he : ws[q0]? = some (a, .inr (ci, fs))) (hc : vwCl[ci]? = some (C, T, N)) (hin : ∀ w ∈ u_ws C T N, w ∈ gw) {ty0 : Nat → FieldType} (hty : ∀ k, k < N → parseFieldDescriptor (T k).2.2.1 = some (ty0 k)) (hnm : ∀ a, a < N → ∀ b, b < N → a ≠ b → (T a).2.1 ≠ (T b).2.1) (k : Nat) (hk : k < N) (hl : Cond.fieldLink own index (T k).1 (T k).2.1 (T k).2.2.1 ∈ gw) (hfin : (T k).2.2.2 = true) (hin2 : meth.name = "<init>") (hdecl : (T k).1 = own) {v : Value} (hn : narrow (ty0 k) v = v) (hfit : fits (ty0 k) v = true) (hlen : k < fs.length) (hdg : decode cc pc = .ok (.putfield index, 3))
    (kk : ∀ (H1 : Heap) (locs1 : List Loc), va_P g vwCl (ws.set q0 (a, .inr (ci, fs.set k v))) H1 → va_D A (ws.set q0 (a, .inr (ci, fs.set k v))) → va_S A s.heap H1 locs1 → W p l e R s m args below meth c H1 locs1 cells slots Q (F0 m (pc + 3) ls rest)) : W p l e R s m args below meth c H locs cells slots Q (F0 m pc ls (v :: .ref a :: rest)) := by
  obtain ⟨hx, hb, hml, hown, hts, hK, hAA, hM, hM2⟩ := F
  exact va_putF (D := g) hx hb hts hin ty0 hty hnm hown hK hP hD hS q0 he hc k hk (hts _ hl) (fun _ h9 => h9) hfin hin2 hdecl (hty k hk) hn hfit hlen hdg kk
theorem xilo (F : Fx p s m args c cc nL own g aC aM A) (hP : va_P g vwCl ws H) (q0 : Nat) {n : Nat} {f : Nat → Int32} (ha : ws[q0]? = some (a, .inl (aC 0, n, .inl f))) {i : Int32} (j : Nat) (h0 : ¬ i < 0) (hi : i.toNatClampNeg = j) (hj : j < n) {v : Int32} (hv : f j = v) (hdg : decode cc pc = .ok (.iaload, 1))
    (kk : W p l e R s m args below meth c H locs cells slots Q (F0 m (pc + 1) ls (.int v :: rest))) : W p l e R s m args below meth c H locs cells slots Q (F0 m pc ls (.int i :: .ref a :: rest)) := by
  refine va_iald F.1 F.2.1 F.2.2.2.2.2.1 hP q0 0 ha rfl (vpin h0 hi hj) hdg ?_
  rw [hi, hv]; exact kk
theorem xclo (F : Fx p s m args c cc nL own g aC aM A) (hP : va_P g vwCl ws H) (q0 : Nat) {n : Nat} {f : Nat → Int32} (ha : ws[q0]? = some (a, .inl (aC 2, n, .inl f))) {i : Int32} (j : Nat) (h0 : ¬ i < 0) (hi : i.toNatClampNeg = j) (hj : j < n) {v : Int32} (hv : f j = v) (hdg : decode cc pc = .ok (.caload, 1))
    (kk : W p l e R s m args below meth c H locs cells slots Q (F0 m (pc + 1) ls (.int v :: rest))) : W p l e R s m args below meth c H locs cells slots Q (F0 m pc ls (.int i :: .ref a :: rest)) := by
  refine va_cald F.1 F.2.1 F.2.2.2.2.2.1 hP q0 2 ha rfl (vpin h0 hi hj) hdg ?_
  rw [hi, hv]; exact kk
theorem xzlo (F : Fx p s m args c cc nL own g aC aM A) (hP : va_P g vwCl ws H) (q0 : Nat) {n : Nat} {f : Nat → Int32} (ha : ws[q0]? = some (a, .inl (aC 3, n, .inl f))) {i : Int32} (j : Nat) (h0 : ¬ i < 0) (hi : i.toNatClampNeg = j) (hj : j < n) {v : Int32} (hv : f j = v) (hdg : decode cc pc = .ok (.baload, 1))
    (kk : W p l e R s m args below meth c H locs cells slots Q (F0 m (pc + 1) ls (.int v :: rest))) : W p l e R s m args below meth c H locs cells slots Q (F0 m pc ls (.int i :: .ref a :: rest)) := by
  refine va_zald F.1 F.2.1 F.2.2.2.2.2.1 hP q0 3 ha rfl (vpin h0 hi hj) hdg ?_
  rw [hi, hv]; exact kk
theorem xllo (F : Fx p s m args c cc nL own g aC aM A) (hP : va_P g vwCl ws H) (q0 : Nat) {n : Nat} {f : Nat → Int64} (ha : ws[q0]? = some (a, .inl (aC 1, n, .inr (.inl f)))) {i : Int32} (j : Nat) (h0 : ¬ i < 0) (hi : i.toNatClampNeg = j) (hj : j < n) {v : Int64} (hv : f j = v) (hdg : decode cc pc = .ok (.laload, 1))
    (kk : W p l e R s m args below meth c H locs cells slots Q (F0 m (pc + 1) ls (.long v :: rest))) : W p l e R s m args below meth c H locs cells slots Q (F0 m pc ls (.int i :: .ref a :: rest)) := by
  refine va_lald F.1 F.2.1 F.2.2.2.2.2.1 hP q0 1 ha rfl (vpin h0 hi hj) hdg ?_
  rw [hi, hv]; exact kk
theorem xist (F : Fx p s m args c cc nL own g aC aM A) (hP : va_P g vwCl ws H) (hD : va_D A ws) (hS : va_S A s.heap H locs) (q0 : Nat) {n : Nat} {f : Nat → Int32} (ha : ws[q0]? = some (a, .inl (aC 0, n, .inl f))) {i x : Int32} (j : Nat) (h0 : ¬ i < 0) (hi : i.toNatClampNeg = j) (hj : j < n) {f' : Nat → Int32} (hf : upd f j x = f') (hdg : decode cc pc = .ok (.iastore, 1))
    (kk : ∀ (H1 : Heap) (locs1 : List Loc), va_P g vwCl (ws.set q0 (a, .inl (aC 0, n, .inl f'))) H1 → va_D A (ws.set q0 (a, .inl (aC 0, n, .inl f'))) → va_S A s.heap H1 locs1 → W p l e R s m args below meth c H1 locs1 cells slots Q (F0 m (pc + 1) ls rest)) : W p l e R s m args below meth c H locs cells slots Q (F0 m pc ls (.int x :: .int i :: .ref a :: rest)) := by
  refine va_iast F.1 F.2.1 F.2.2.2.2.2.1 hP hD hS q0 0 ha rfl (vpin h0 hi hj) hdg ?_
  rw [hi, hf]; exact kk
theorem xcst (F : Fx p s m args c cc nL own g aC aM A) (hP : va_P g vwCl ws H) (hD : va_D A ws) (hS : va_S A s.heap H locs) (q0 : Nat) {n : Nat} {f : Nat → Int32} (ha : ws[q0]? = some (a, .inl (aC 2, n, .inl f))) {i x : Int32} (j : Nat) (h0 : ¬ i < 0) (hi : i.toNatClampNeg = j) (hj : j < n) {f' : Nat → Int32} (hf : upd f j (vp_nar .char x) = f') (hdg : decode cc pc = .ok (.castore, 1))
    (kk : ∀ (H1 : Heap) (locs1 : List Loc), va_P g vwCl (ws.set q0 (a, .inl (aC 2, n, .inl f'))) H1 → va_D A (ws.set q0 (a, .inl (aC 2, n, .inl f'))) → va_S A s.heap H1 locs1 → W p l e R s m args below meth c H1 locs1 cells slots Q (F0 m (pc + 1) ls rest)) : W p l e R s m args below meth c H locs cells slots Q (F0 m pc ls (.int x :: .int i :: .ref a :: rest)) := by
  refine va_cast F.1 F.2.1 F.2.2.2.2.2.1 hP hD hS q0 2 ha rfl (vpin h0 hi hj) hdg ?_
  rw [hi, hf]; exact kk
theorem xzst (F : Fx p s m args c cc nL own g aC aM A) (hP : va_P g vwCl ws H) (hD : va_D A ws) (hS : va_S A s.heap H locs) (q0 : Nat) {n : Nat} {f : Nat → Int32} (ha : ws[q0]? = some (a, .inl (aC 3, n, .inl f))) {i x : Int32} (j : Nat) (h0 : ¬ i < 0) (hi : i.toNatClampNeg = j) (hj : j < n) {f' : Nat → Int32} (hf : upd f j (vp_nar .boolean x) = f') (hdg : decode cc pc = .ok (.bastore, 1))
    (kk : ∀ (H1 : Heap) (locs1 : List Loc), va_P g vwCl (ws.set q0 (a, .inl (aC 3, n, .inl f'))) H1 → va_D A (ws.set q0 (a, .inl (aC 3, n, .inl f'))) → va_S A s.heap H1 locs1 → W p l e R s m args below meth c H1 locs1 cells slots Q (F0 m (pc + 1) ls rest)) : W p l e R s m args below meth c H locs cells slots Q (F0 m pc ls (.int x :: .int i :: .ref a :: rest)) := by
  refine va_zast F.1 F.2.1 F.2.2.2.2.2.1 hP hD hS q0 3 ha rfl (vpin h0 hi hj) hdg ?_
  rw [hi, hf]; exact kk
theorem xlst (F : Fx p s m args c cc nL own g aC aM A) (hP : va_P g vwCl ws H) (hD : va_D A ws) (hS : va_S A s.heap H locs) (q0 : Nat) {n : Nat} {f : Nat → Int64} (ha : ws[q0]? = some (a, .inl (aC 1, n, .inr (.inl f)))) {i : Int32} {x : Int64} (j : Nat) (h0 : ¬ i < 0) (hi : i.toNatClampNeg = j) (hj : j < n) {f' : Nat → Int64} (hf : vp_updL f j x = f') (hdg : decode cc pc = .ok (.lastore, 1))
    (kk : ∀ (H1 : Heap) (locs1 : List Loc), va_P g vwCl (ws.set q0 (a, .inl (aC 1, n, .inr (.inl f')))) H1 → va_D A (ws.set q0 (a, .inl (aC 1, n, .inr (.inl f')))) → va_S A s.heap H1 locs1 → W p l e R s m args below meth c H1 locs1 cells slots Q (F0 m (pc + 1) ls rest)) : W p l e R s m args below meth c H locs cells slots Q (F0 m pc ls (.long x :: .int i :: .ref a :: rest)) := by
  refine va_last F.1 F.2.1 F.2.2.2.2.2.1 hP hD hS q0 1 ha rfl (vpin h0 hi hj) hdg ?_
  rw [hi, hf]; exact kk
/-- an element of a row of objects -/
theorem xqlo (F : Fx p s m args c cc nL own g aC aM A) (hP : va_P g vwCl ws H) (q0 t0 : Nat) {n : Nat} {C : String} {f : Nat → Option Nat} (ha : ws[q0]? = some (a, .inl (aC t0, n, .inr (.inr (.inr (.inr f)))))) (ht : (aTys aC)[t0]? = some (aC t0, .object C)) {i : Int32} (j : Nat) (h0 : ¬ i < 0) (hi : i.toNatClampNeg = j) (hj : j < n) {v : Nat} (hv : f j = some v) (hdg : decode cc pc = .ok (.aaload, 1))
    (kk : W p l e R s m args below meth c H locs cells slots Q (F0 m (pc + 1) ls (.ref v :: rest))) : W p l e R s m args below meth c H locs cells slots Q (F0 m pc ls (.int i :: .ref a :: rest)) := by
  refine va_aldq F.1 F.2.1 F.2.2.2.2.2.1 hP q0 t0 ha ht (vpin h0 hi hj) hdg ?_
  rw [hi, hv]; exact kk
theorem xqst (F : Fx p s m args c cc nL own g aC aM A) (hP : va_P g vwCl ws H) (hD : va_D A ws) (hS : va_S A s.heap H locs) (q0 t0 qk ci : Nat) {n v : Nat} {r : vw_C} {vs : List Value} {f : Nat → Option Nat} (ha : ws[q0]? = some (a, .inl (aC t0, n, .inr (.inr (.inr (.inr f)))))) (ht : (aTys aC)[t0]? = some (aC t0, .object r.1)) (hv : ws[qk]? = some (v, .inr (ci, vs))) (hc : vwCl[ci]? = some r) {i : Int32} (j : Nat) (h0 : ¬ i < 0) (hi : i.toNatClampNeg = j) (hj : j < n) (hdg : decode cc pc = .ok (.aastore, 1))
    (kk : ∀ (H1 : Heap) (locs1 : List Loc), va_P g vwCl (ws.set q0 (a, .inl (aC t0, n, .inr (.inr (.inr (.inr (va_up f j (some v)))))))) H1 → va_D A (ws.set q0 (a, .inl (aC t0, n, .inr (.inr (.inr (.inr (va_up f j (some v)))))))) → va_S A s.heap H1 locs1 → W p l e R s m args below meth c H1 locs1 cells slots Q (F0 m (pc + 1) ls rest)) : W p l e R s m args below meth c H locs cells slots Q (F0 m pc ls (.ref v :: .int i :: .ref a :: rest)) := by
  refine va_astq F.1 F.2.1 F.2.2.2.2.2.1 hP hD hS q0 t0 qk ci ha ht hv hc (vpin h0 hi hj) hdg ?_
  rw [hi]; exact kk
theorem xlen (F : Fx p s m args c cc nL own g aC aM A) (hP : va_P g vwCl ws H) (q0 t0 : Nat) {cA : ClassId} {x : vp_A} {ty : FieldType} (ha : ws[q0]? = some (a, .inl (cA, x))) (ht : (aTys aC)[t0]? = some (cA, ty)) {v : Int32} (hv : Int32.ofNat x.1 = v) (hdg : decode cc pc = .ok (.arraylength, 1))
    (kk : W p l e R s m args below meth c H locs cells slots Q (F0 m (pc + 1) ls (.int v :: rest))) : W p l e R s m args below meth c H locs cells slots Q (F0 m pc ls (.ref a :: rest)) :=
  va_alen F.1 F.2.1 F.2.2.2.2.2.1 hP q0 t0 ha ht hv hdg kk
/-- the statics -/
theorem xmost (F : Fx p s m args c cc nL own g aC aM A) (hS : va_S A s.heap H locs) {index : Nat} (hl : Cond.fieldLink own index "StairGang" "MOST" "[I" ∈ gw) (hdg : decode cc pc = .ok (.getstatic index, 3))
    (kk : W p l e R s m args below meth c H locs cells slots Q (F0 m (pc + 3) ls (.ref (aM 0) :: rest))) : W p l e R s m args below meth c H locs cells slots Q (F0 m pc ls rest) := by
  obtain ⟨hx, hb, hml, hown, hts, hK, hAA, hM, hM2⟩ := F
  exact va_gets hx hb hM.1 hS hown (hts _ hl) (fun _ h => h) hdg kk
theorem xmostN (F : Fx p s m args c cc nL own g aC aM A) (hS : va_S A s.heap H locs) {index : Nat} (hl : (own, index) ∈ nsF) (hdg : decode cc pc = .ok (.getstatic index, 3))
    (kk : W p l e R s m args below meth c H locs cells slots Q (F0 m (pc + 3) ls (.ref (aM 0) :: rest))) : W p l e R s m args below meth c H locs cells slots Q (F0 m pc ls rest) := by
  obtain ⟨hx, hb, hml, hown, hts, hK, hAA, hM, hM2⟩ := F
  exact va_getsN hx hb hM.1 hS hown ((hM2.2.1 _ hl).use rfl) (fun _ h => h) hdg kk
theorem xmolo (F : Fx p s m args c cc nL own g aC aM A) (hS : va_S A s.heap H locs) {i : Int32} (j : Nat) (h0 : ¬ i < 0) (hi : i.toNatClampNeg = j) (hj : j < 5) {v : Int32} (hv : moF j = v) (hdg : decode cc pc = .ok (.iaload, 1))
    (kk : W p l e R s m args below meth c H locs cells slots Q (F0 m (pc + 1) ls (.int v :: rest))) : W p l e R s m args below meth c H locs cells slots Q (F0 m pc ls (.int i :: .ref (aM 0) :: rest)) :=
  va_ti F.1 F.2.1 F.2.2.2.2.2.2.2.1.2.1 hS (vpin h0 hi hj) (v := .int v) (by rw [hi, hv]) hdg kk
theorem xmolen (F : Fx p s m args c cc nL own g aC aM A) (hS : va_S A s.heap H locs) (hdg : decode cc pc = .ok (.arraylength, 1))
    (kk : W p l e R s m args below meth c H locs cells slots Q (F0 m (pc + 1) ls (.int 5 :: rest))) : W p l e R s m args below meth c H locs cells slots Q (F0 m pc ls (.ref (aM 0) :: rest)) :=
  va_tlen F.1 F.2.1 F.2.2.2.2.2.2.2.1.2.1 hS rfl hdg kk
theorem xobj (F : Fx p s m args c cc nL own g aC aM A) {index : Nat} (k1 : Cond.methodLink own index Lib.objectInit ∈ gw) (k2 : Cond.instanceMethod Lib.objectInit ∈ gw) (k3 : Cond.code Lib.objectInit ⟨#[0xb1]⟩ 1 none ∈ gw) (hsz : ls.size = nL) (hdg : decode cc pc = .ok (.invokespecial index, 3)) (hf : 1 ≤ R.frames) (hlo : (rest.map fun v => v.category).sum + 12 ≤ R.locals)
    (kk : W p l e R s m args below meth c H locs cells slots Q (F0 m (pc + 3) ls rest)) : W p l e R s m args below meth c H locs cells slots Q (F0 m pc ls (.ref a :: rest)) := by
  obtain ⟨hx, hb, hml, hown, hts, hK, hAA, hM, hM2⟩ := F
  refine W.objInit hx hb hown (hts _ k1) (hts _ k2) (hts _ k3) rfl (by rw [hml]; exact hsz) rfl hdg hf ?_ kk
  have : 2 * (F0 m pc ls (.ref a :: rest)).monitorRoom = 0 := rfl
  rw [this, Nat.zero_add]; exact hlo
theorem xnew (F : Fx p s m args c cc nL own g aC aM A) (hP : va_P g vwCl ws H) (hD : va_D A ws) (hS : va_S A s.heap H locs) {C : String} {T : u_T} {N ci index : Nat} (hin : ∀ w ∈ u_ws C T N, w ∈ gw) {ty : Nat → FieldType} (hty : ∀ k, k < N → parseFieldDescriptor (T k).2.2.1 = some (ty k)) (k1 : Cond.classLink own index C ∈ gw) (k2 : Cond.instantiable C N ∈ gw) (k3 : Cond.initialized C ∈ gw) (hc : vwCl[ci]? = some (C, T, N)) {fs : List Value} (hfs : ∀ j, j < N → defaultValue (ty j) = vp_V fs j) (hcells : cells + 1 ≤ R.cells) (hslots : slots + N ≤ R.slots) (hdg : decode cc pc = .ok (.new index, 3))
    (kk : ∀ (q : Nat) (H1 : Heap), va_P g vwCl (ws ++ [(q, .inr (ci, fs))]) H1 → va_D A (ws ++ [(q, .inr (ci, fs))]) → va_S A s.heap H1 locs → W p l e R s m args below meth c H1 locs (cells + 1) (slots + N) Q (F0 m (pc + 3) ls (.ref q :: rest))) : W p l e R s m args below meth c H locs cells slots Q (F0 m pc ls rest) := by
  obtain ⟨hx, hb, hml, hown, hts, hK, hAA, hM, hM2⟩ := F
  exact va_new (D := g) hx hb hts hin ty hty hown (hts _ k1) (hts _ k2) (hts _ k3) hK hP hD hS hAA hc hfs hcells hslots hdg kk
theorem xnewa (F : Fx p s m args c cc nL own g aC aM A) (hP : va_P g vwCl ws H) (hD : va_D A ws) (hS : va_S A s.heap H locs) {atype : ArrayType} {ty : FieldType} (hty : newarray.typeOf atype = ty) (k1 : Cond.arrayClass (newarray.typeOf atype) ∈ gw) (t0 : Nat) (ht : (aTys aC)[t0]? = some (aC t0, ty)) (hra : ∀ cA, va_RA s cA ty = (s.vm.findClass ("[" ++ ty.toString) = some cA)) {n : Int32} {N' : Nat} {a0 : vp_A} (ha : ∀ cA : ClassId, vp_cell cA a0 = arrV cA N' (fun _ => defaultValue ty)) (hn : ¬ n < 0) (hN : n.toNatClampNeg = N') (hbytes : N' * componentBytes ty ≤ 536870912) (hcells : cells + 1 ≤ R.cells) (hslots : slots + N' ≤ R.slots) (hdg : decode cc pc = .ok (.newarray atype, 2))
    (kk : ∀ (q : Nat) (H1 : Heap), va_P g vwCl (ws ++ [(q, .inl (aC t0, a0))]) H1 → va_D A (ws ++ [(q, .inl (aC t0, a0))]) → va_S A s.heap H1 locs → W p l e R s m args below meth c H1 locs (cells + 1) (slots + N') Q (F0 m (pc + 2) ls (.ref q :: rest))) : W p l e R s m args below meth c H locs cells slots Q (F0 m pc ls (.int n :: rest)) := by
  obtain ⟨hx, hb, hml, hown, hts, hK, hAA, hM, hM2⟩ := F
  refine va_newa hx hb (hts _ k1) hty hK hP hD hS hAA ha hn hN hbytes hcells hslots hdg (fun q cA H1 hK1 hP1 hD1 hS1 => ?_)
  have e1 : s.vm.findClass ("[" ++ ty.toString) = some (aC t0) := by have := (hK.2 t0 _ ht).2; rw [hra] at this; exact this
  have e2 : s.vm.findClass ("[" ++ ty.toString) = some cA := by have := (hK1.2 7 (cA, ty) rfl).2; rw [hra] at this; exact this
  have e3 : cA = aC t0 := by rw [e1] at e2; exact (Option.some.inj e2).symm
  subst e3
  exact kk q H1 hP1 hD1 hS1
theorem xnewq (F : Fx p s m args c cc nL own g aC aM A) (hP : va_P g vwCl ws H) (hD : va_D A ws) (hS : va_S A s.heap H locs) {C : String} {index : Nat} (k1 : Cond.classLink own index C ∈ gw) (hao : va_AO C s) (t0 : Nat) (ht : (aTys aC)[t0]? = some (aC t0, .object C)) {n : Int32} {N' : Nat} (hn : ¬ n < 0) (hN : n.toNatClampNeg = N') (hbytes : N' * 4 ≤ 536870912) (hcells : cells + 1 ≤ R.cells) (hslots : slots + N' ≤ R.slots) (hdg : decode cc pc = .ok (.anewarray index, 3))
    (kk : ∀ (q : Nat) (H1 : Heap), va_P g vwCl (ws ++ [(q, .inl (aC t0, N', .inr (.inr (.inr (.inr (fun _ => none))))))]) H1 → va_D A (ws ++ [(q, .inl (aC t0, N', .inr (.inr (.inr (.inr (fun _ => none))))))]) → va_S A s.heap H1 locs → W p l e R s m args below meth c H1 locs (cells + 1) (slots + N') Q (F0 m (pc + 3) ls (.ref q :: rest))) : W p l e R s m args below meth c H locs cells slots Q (F0 m pc ls (.int n :: rest)) := by
  obtain ⟨hx, hb, hml, hown, hts, hK, hAA, hM, hM2⟩ := F
  refine va_newq hx hb hown (hts _ k1) hao hK hP hD hS hAA hn hN hbytes hcells hslots hdg (fun q cA H1 hK1 hP1 hD1 hS1 => ?_)
  obtain ⟨_, _, _, _, _, e1⟩ := (hK.2 t0 _ ht).2
  obtain ⟨_, _, _, _, _, e2⟩ := (hK1.2 7 (cA, .object C) rfl).2
  have e3 : cA = aC t0 := by rw [e1] at e2; exact (Option.some.inj e2).symm
  subst e3
  exact kk q H1 hP1 hD1 hS1
/-- new int[n][k]: the rows follow the outer array -/
theorem xmulti (F : Fx p s m args c cc nL own g aC aM A) (hP : va_P g vwCl ws H) (hD : va_D A ws) (hS : va_S A s.heap H locs) {index : Nat} (k1 : Cond.classLink own index ("[" ++ (FieldType.array .int).toString) ∈ gw) (k2 : Cond.arrayClass .int ∈ gw) {n k : Int32} {N' K' : Nat} (hn : ¬ n < 0) (hk : ¬ k < 0) (hN : n.toNatClampNeg = N') (hM' : k.toNatClampNeg = K') (hb1 : N' * 4 ≤ 536870912) (hb2 : K' * 4 ≤ 536870912) (hcells : cells + (1 + N') ≤ R.cells) (hslots : slots + (N' + N' * K') ≤ R.slots) (hdg : decode cc pc = .ok (.multianewarray index 2, 4))
    (kk : ∀ (q : Nat) (r : Nat → Nat) (H1 : Heap), va_P g vwCl ((ws ++ [(q, .inl (aC 6, N', .inr (.inr (.inr (.inr (fun i => if i < N' then some (r i) else none))))))]) ++ (List.range N').map (fun i => (r i, .inl (aC 0, K', .inl (fun _ => 0))))) H1 → va_D A ((ws ++ [(q, .inl (aC 6, N', .inr (.inr (.inr (.inr (fun i => if i < N' then some (r i) else none))))))]) ++ (List.range N').map (fun i => (r i, .inl (aC 0, K', .inl (fun _ => 0))))) → va_S A s.heap H1 locs → W p l e R s m args below meth c H1 locs (cells + 1 + N') (slots + N' + N' * K') Q (F0 m (pc + 4) ls (.ref q :: rest))) : W p l e R s m args below meth c H locs cells slots Q (F0 m pc ls (.int k :: .int n :: rest)) := by
  obtain ⟨hx, hb, hml, hown, hts, hK, hAA, hM, hM2⟩ := F
  have e0 : s.vm.findClass (FieldType.array .int).toString = some (aC 0) := (hK.2 0 _ rfl).2
  have hP0 : va_P g vwCl (ws ++ va_pl [] (fun _ => .inr (0, []))) H := by simpa [va_pl] using hP
  have hD0 : va_D A (ws ++ va_pl [] (fun _ => .inr (0, []))) := by simpa [va_pl] using hD
  refine va_mna (X := ws) (L := []) (f := fun _ => .inr (0, [])) (ty := .int) (z := (K', .inl (fun _ => 0))) hx hb hown (hts _ k1) hM2.2.2.2.2.1 (hts _ k2) e0 hK hP0 hD0 hS hAA hn hk hN hM' hb1 hb2 (by omega) rfl rfl hcells hslots (fun c => ?_) hdg (fun q r cA H1 hinj hnin hK1 hP1 hD1 hS1 => ?_)
  · show ({ cls := c, slots := Array.replicate K' (.int 0), vm := .none } : Cell) = arrV c K' (fun _ => .int 0)
    rw [← arrV_new]
  · have e1 : s.vm.findClass ("[" ++ (FieldType.array .int).toString) = some (aC 6) := (hK.2 6 _ rfl).2
    have e2 : s.vm.findClass ("[" ++ (FieldType.array .int).toString) = some cA := (hK1.2 7 (cA, .array .int) rfl).2
    have e3 : cA = aC 6 := by rw [e1] at e2; exact (Option.some.inj e2).symm
    subst e3
    have e4 : va_pl ([] ++ (List.range N').map r) (vr_up (fun _ => .inr (0, [])) ((List.range N').map r) (.inl (aC 0, (K', .inl (fun _ => 0))))) = (List.range N').map (fun i => (r i, .inl (aC 0, K', .inl (fun _ => 0)))) := by
      unfold va_pl
      rw [List.nil_append, List.map_map]
      apply List.map_congr_left
      intro i hi
      simp only [Function.comp]
      rw [vr_up_in (List.mem_map_of_mem hi)]
    rw [e4] at hP1 hD1
    exact kk q r H1 hP1 hD1 hS1
theorem nadd {a b c : Nat} (h : a + b = c) : nI a + nI b = nI c := by rw [nI_add, h]
theorem nmul {a b c : Nat} (h : a * b = c) : nI a * nI b = nI c := by rw [pk_mul, h]
theorem ninc {a c : Nat} (n : Nat) (h : a + n = c) : nI a + Int32.ofInt (n : Int) = nI c := by
  have e : Int32.ofInt (n : Int) = nI n := by simp [nI, Int32.ofNat, Int32.ofInt]
  rw [e, nI_add, h]
theorem xistE (F : Fx p s m args c cc nL own g aC aM A) (hP : va_P g vwCl ws H) (hD : va_D A ws) (hS : va_S A s.heap H locs) (q0 : Nat) {n : Nat} {f : Nat → Int32} (ha : ws[q0]? = some (a, .inl (aC 0, n, .inl f))) {i x : Int32} (j : Nat) (h0 : ¬ i < 0) (hi : i.toNatClampNeg = j) (hj : j < n) (hdg : decode cc pc = .ok (.iastore, 1))
    (kk : ∀ (f' : Nat → Int32) (H1 : Heap) (locs1 : List Loc), va_P g vwCl (ws.set q0 (a, .inl (aC 0, n, .inl f'))) H1 → va_D A (ws.set q0 (a, .inl (aC 0, n, .inl f'))) → va_S A s.heap H1 locs1 → W p l e R s m args below meth c H1 locs1 cells slots Q (F0 m (pc + 1) ls rest)) : W p l e R s m args below meth c H locs cells slots Q (F0 m pc ls (.int x :: .int i :: .ref a :: rest)) :=
  xist F hP hD hS q0 ha j h0 hi hj rfl hdg (kk _)
theorem xlstE (F : Fx p s m args c cc nL own g aC aM A) (hP : va_P g vwCl ws H) (hD : va_D A ws) (hS : va_S A s.heap H locs) (q0 : Nat) {n : Nat} {f : Nat → Int64} (ha : ws[q0]? = some (a, .inl (aC 1, n, .inr (.inl f)))) {i : Int32} {x : Int64} (j : Nat) (h0 : ¬ i < 0) (hi : i.toNatClampNeg = j) (hj : j < n) (hdg : decode cc pc = .ok (.lastore, 1))
    (kk : ∀ (f' : Nat → Int64) (H1 : Heap) (locs1 : List Loc), va_P g vwCl (ws.set q0 (a, .inl (aC 1, n, .inr (.inl f')))) H1 → va_D A (ws.set q0 (a, .inl (aC 1, n, .inr (.inl f')))) → va_S A s.heap H1 locs1 → W p l e R s m args below meth c H1 locs1 cells slots Q (F0 m (pc + 1) ls rest)) : W p l e R s m args below meth c H locs cells slots Q (F0 m pc ls (.long x :: .int i :: .ref a :: rest)) :=
  xlst F hP hD hS q0 ha j h0 hi hj rfl hdg (kk _)
theorem xcstE (F : Fx p s m args c cc nL own g aC aM A) (hP : va_P g vwCl ws H) (hD : va_D A ws) (hS : va_S A s.heap H locs) (q0 : Nat) {n : Nat} {f : Nat → Int32} (ha : ws[q0]? = some (a, .inl (aC 2, n, .inl f))) {i x : Int32} (j : Nat) (h0 : ¬ i < 0) (hi : i.toNatClampNeg = j) (hj : j < n) (hdg : decode cc pc = .ok (.castore, 1))
    (kk : ∀ (f' : Nat → Int32) (H1 : Heap) (locs1 : List Loc), va_P g vwCl (ws.set q0 (a, .inl (aC 2, n, .inl f'))) H1 → va_D A (ws.set q0 (a, .inl (aC 2, n, .inl f'))) → va_S A s.heap H1 locs1 → W p l e R s m args below meth c H1 locs1 cells slots Q (F0 m (pc + 1) ls rest)) : W p l e R s m args below meth c H locs cells slots Q (F0 m pc ls (.int x :: .int i :: .ref a :: rest)) :=
  xcst F hP hD hS q0 ha j h0 hi hj rfl hdg (kk _)
theorem xup0 (j : Nat) : upd (fun _ => 0) j 0 = fun _ => 0 := by funext k; simp [upd]
theorem xup0L (j : Nat) : vp_updL (fun _ => 0) j 0 = fun _ => 0 := by funext k; simp [vp_updL]
end Rw
