theorem inT {C : String} {T : u_T} {N : Nat} (h : ∀ k, k < N → u_lay C T k ∈ tables_1 ∧ goodWord (u_lay C T k) = true) : ∀ w ∈ u_ws C T N, w ∈ gw := fun w hw => by
  obtain ⟨k, hk, rfl⟩ := List.mem_map.mp hw
  exact List.mem_filter.mpr ⟨List.mem_append_right _ (h k (List.mem_range.mp hk)).1, (h k (List.mem_range.mp hk)).2⟩
theorem inTi {C : String} {T : u_T} {N : Nat} (L : List Nat) (h : ∀ k, k < N → tables_1[L.getD k 0]? = some (u_lay C T k) ∧ goodWord (u_lay C T k) = true) : ∀ w ∈ u_ws C T N, w ∈ gw := inT (fun k hk => ⟨List.mem_of_getElem? (h k hk).1, (h k hk).2⟩)
theorem inX0 : ∀ w ∈ u_ws RX0 TX0 2, w ∈ gw := inTi [395, 397] (by decide +kernel)
theorem dfX0 : ∀ j, j < 2 → defaultValue (tyX0 j) = vp_V [.null, .int 0] j := by decide +kernel
theorem inX1 : ∀ w ∈ u_ws RX1 TX1 3, w ∈ gw := inTi [355, 357, 359] (by decide +kernel)
theorem dfX1 : ∀ j, j < 3 → defaultValue (tyX1 j) = vp_V [.int 0, .int 0, .null] j := by decide +kernel
theorem inX2 : ∀ w ∈ u_ws RX2 TX2 3, w ∈ gw := inTi [159, 161, 163] (by decide +kernel)
theorem dfX2 : ∀ j, j < 3 → defaultValue (tyX2 j) = vp_V [.null, .int 0, .null] j := by decide +kernel
theorem inX3 : ∀ w ∈ u_ws RX3 TX3 5, w ∈ gw := inTi [376, 378, 380, 382, 384] (by decide +kernel)
theorem dfX3 : ∀ j, j < 5 → defaultValue (tyX3 j) = vp_V [.int 0, .null, .null, .null, .null] j := by decide +kernel
theorem inX4 : ∀ w ∈ u_ws RX4 TX4 3, w ∈ gw := inTi [186, 188, 190] (by decide +kernel)
theorem dfX4 : ∀ j, j < 3 → defaultValue (tyX4 j) = vp_V [.null, .int 0, .null] j := by decide +kernel
theorem inX5 : ∀ w ∈ u_ws RX5 TX5 5, w ∈ gw := inTi [331, 333, 335, 337, 339] (by decide +kernel)
theorem dfX5 : ∀ j, j < 5 → defaultValue (tyX5 j) = vp_V [.null, .int 0, .int 0, .null, .int 0] j := by decide +kernel
theorem inX6 : ∀ w ∈ u_ws RX6 TX6 6, w ∈ gw := inTi [304, 306, 308, 310, 312, 314] (by decide +kernel)
theorem dfX6 : ∀ j, j < 6 → defaultValue (tyX6 j) = vp_V [.int 0, .null, .null, .int 0, .int 0, .int 0] j := by decide +kernel
theorem inX7 : ∀ w ∈ u_ws RX7 TX7 10, w ∈ gw := inTi [114, 116, 118, 120, 122, 124, 126, 128, 130, 132] (by decide +kernel)
theorem dfX7 : ∀ j, j < 10 → defaultValue (tyX7 j) = vp_V [.int 0, .int 0, .null, .null, .int 0, .int 0, .int 0, .long 0, .int 0, .int 0] j := by decide +kernel
theorem inX8 : ∀ w ∈ u_ws RX8 TX8 12, w ∈ gw := inTi [260, 262, 264, 266, 268, 270, 272, 274, 276, 278, 280, 282] (by decide +kernel)
theorem dfX8 : ∀ j, j < 12 → defaultValue (tyX8 j) = vp_V [.null, .null, .null, .null, .null, .int 0, .int 0, .null, .null, .null, .null, .null] j := by decide +kernel
theorem inX9 : ∀ w ∈ u_ws RX9 TX9 1, w ∈ gw := inTi [145] (by decide +kernel)
theorem dfX9 : ∀ j, j < 1 → defaultValue (tyX9 j) = vp_V [.null] j := by decide +kernel
theorem inX10 : ∀ w ∈ u_ws RX10 TX10 16, w ∈ gw := inTi [416, 418, 420, 422, 424, 426, 428, 430, 432, 434, 436, 438, 440, 442, 444, 446] (by decide +kernel)
theorem dfX10 : ∀ j, j < 16 → defaultValue (tyX10 j) = vp_V [.null, .null, .null, .null, .null, .null, .null, .null, .null, .null, .null, .int 0, .null, .null, .null, .long 0] j := by decide +kernel
theorem inX11 : ∀ w ∈ u_ws RX11 TX11 74, w ∈ gw := inTi [1256, 1258, 1260, 1262, 1264, 1266, 1268, 1270, 1272, 1274, 1276, 1278, 1280, 1282, 1284, 1286, 1288, 1290, 1292, 1294, 1296, 1298, 1300, 1302, 1304, 1306, 1308, 1310, 1312, 1314, 1316, 1318, 1320, 1322, 1324, 1326, 1328, 1330, 1332, 1334, 1336, 1338, 1340, 1342, 1344, 1346, 1348, 1350, 1352, 1354, 1356, 1358, 1360, 1362, 1364, 1366, 1368, 1370, 1372, 1374, 1376, 1378, 1380, 1382, 1384, 1386, 1388, 1390, 1392, 1394, 1396, 1398, 1400, 1402] (by decide +kernel)
theorem dfX11 : ∀ j, j < 74 → defaultValue (tyX11 j) = vp_V [.int 0, .int 0, .null, .int 0, .int 0, .int 0, .int 0, .long 0, .int 0, .int 0, .null, .null, .null, .null, .null, .null, .null, .null, .null, .null, .null, .null, .null, .null, .null, .null, .null, .null, .null, .null, .null, .int 0, .int 0, .null, .null, .null, .null, .null, .null, .null, .null, .null, .null, .null, .null, .int 0, .null, .null, .null, .null, .null, .null, .null, .null, .null, .null, .null, .null, .null, .null, .int 0, .null, .null, .null, .int 0, .null, .null, .null, .int 0, .int 0, .int 0, .null, .null, .long 0] j := by decide +kernel
theorem xcpy0 (a b n : Nat) : va_cpy (fun _ => (0 : Int32)) (fun _ => 0) a b n = fun _ => 0 := by funext j; simp [va_cpy]
theorem xz0 (j : Nat) {x : Int32} (h : x = 0) : upd (fun _ => 0) j x = fun _ => 0 := by subst h; funext k; simp [upd]
theorem xup (f : Nat → Int32) (j : Nat) {x y : Int32} (h : x = y) : upd f j x = upd f j y := by rw [h]
section Rr
variable {p : Program} {l : Launch} {e : Env} {R : Room} {s : State} {m : MethodId} {args : Array Value} {below : List Frame} {meth : Method} {c : Code} {H : Heap} {locs : List Loc} {cells slots : Nat} {Q : State → Prop}
variable {cc : ByteArray} {pc : Nat} {ls : Array Slot} {rest : List Value} {g : va_G} {aC : Nat → ClassId} {aM : Nat → Nat} {A : Nat → Prop} {nL : Nat} {own : String} {ws : va_W} {a : Nat}
/-- a row of a row of rows -/
theorem xrlo (F : Fx p s m args c cc nL own g aC aM A) (hP : va_P g vwCl ws H) (q0 : Nat) {n : Nat} {f : Nat → Option Nat} (ha : ws[q0]? = some (a, .inl (aC 6, n, .inr (.inr (.inr (.inr f)))))) {i : Int32} (j : Nat) (h0 : ¬ i < 0) (hi : i.toNatClampNeg = j) (hj : j < n) {v : Nat} (hv : f j = some v) (hdg : decode cc pc = .ok (.aaload, 1))
    (kk : W p l e R s m args below meth c H locs cells slots Q (F0 m (pc + 1) ls (.ref v :: rest))) : W p l e R s m args below meth c H locs cells slots Q (F0 m pc ls (.int i :: .ref a :: rest)) := by
  have hin : vp_in i n := vpin h0 hi hj
  have hlt : i.toNatClampNeg < n := by rw [hi]; exact hj
  refine W.aald (v := va_rf (f i.toNatClampNeg)) (ty := .array .int) F.1 F.2.1 (hP q0 _ ha) ((F.2.2.2.2.2.1.2 6 _ rfl).1 n (fun j => va_rf (f j))) rfl (fun q => by cases q) (by show ¬ (i < 0 ∨ (arrV _ _ _).slots.size ≤ _); rw [arrV_size]; exact hin) (by show (arrV _ _ _).slots[_]? = _; rw [arrV_read _ _ hlt]) rfl rfl hdg ?_
  rw [hi, hv]; exact kk
end Rr
theorem cv_PD {g : va_G} {A : Nat → Prop} {L1 L2 : va_W} {H : Heap} (hP : va_P g vwCl L1 H) (hD : va_D A L1) (e : L1 = L2) : va_P g vwCl L2 H ∧ va_D A L2 := by
  subst e
  exact ⟨hP, hD⟩
